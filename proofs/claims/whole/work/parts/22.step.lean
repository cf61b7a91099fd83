def jpc (pcs : List (Nat × Nat)) (i : Nat) : Nat := match jnth pcs i with
  | some (q, _) => q
  | none => 0
theorem jnx_spec {pcs : List (Nat × Nat)} {pc len nx k : Nat} (h : jnxok pcs pc len nx k = true) : len = k ∧ jpc pcs nx = pc + k := by
  unfold jnxok at h
  simp only [Bool.and_eq_true] at h
  obtain ⟨h1, h2⟩ := h
  refine ⟨Nat.eq_of_beq_eq_true h1, ?_⟩
  unfold jpc
  split at h2
  · rename_i q len2 hq
    simp only [hq]
    exact Nat.eq_of_beq_eq_true h2
  · cases h2
theorem jtg_spec {pcs : List (Nat × Nat)} {pc a : Nat} {off : Int} (h : jtgt pcs pc a off = true) : (pc : Int) + off = (jpc pcs a : Int) := by
  unfold jtgt at h
  unfold jpc
  split at h
  · rename_i q len2 hq
    simp only [hq]
    simpa using h
  · cases h
def jlen2 : List Nat := (jstrs.drop 1).map List.length
def jbyt2 : List (List Int32) := (jstrs.drop 1).map (fun t => t.map Int32.ofNat)
abbrev jtx1 : String := "field crop scare flap most crows gust seed law see eat pay or and not sight far wind hour grade ripe date"
abbrev jtx2 : String := "field crop scare flap most crows wind gust seed law see eat pay or and not sight far wind hour grade ripe date "
/-- what stands outside the made cells: the script, the texts, what the tables say of it -/
def jFr (B Ln : Nat) (xs : Nat → Int32) (EX adV : Nat → Nat) (U : State) (H : Heap) : Prop :=
  va_X (EX 0) Ln xs U H ∧ EX 0 < B ∧ va_AO "CrowRota$Law" U ∧ (∀ x ∈ jln, va_Nw (jnw x) U) ∧ vk_R "CrowRota$Tokens" 18 jtx1 (EX 1) U ∧ vk_R "CrowRotaModel" 188 jtx2 (EX 2) U ∧
  vk_S 2 jlen2 jbyt2 (fun i => EX (i + 1)) adV (fun q => B ≤ q) U H ∧ va_Z "java/lang/String" "COMPACT_STRINGS" "Z" (.int 1) (fun q => B ≤ q) U H ∧ va_Zq "jdk/internal/util/Preconditions" "SIOOBE_FORMATTER" "Ljava/util/function/BiFunction;" (fun q => B ≤ q) U H
/-- where a body stands -/
def jC (p : Program) (s : State) (args : Array Value) (m : MethodId) (meth : Method) (c : Code) (cc : ByteArray) (nL own : Nat) (isI : Bool) (D : va_G) (cA : Nat → ClassId) (B : Nat) (EX adV : Nat → Nat) (Ln : Nat) (xs : Nat → Int32) (nc0 : Nat) : Prop :=
  p.tables.exec = Jvm.exec ∧ c.code = cc ∧ c.maxLocals = nL ∧ s.vm.findClass (jown.getD own "") = some m.cls ∧ (isI = true → meth.name = "<init>") ∧ (∀ w ∈ jG, w.before args s = true) ∧ va_K D jcls (jtys cA) s ∧ B ≤ s.heap.size ∧ s.heap.size ≤ B + nc0 ∧ jFr B Ln xs EX adV s s.heap ∧ meth.locks = false
theorem jtypos {l : List Nat} (h : l = [0]) : True := trivial
theorem jsome4 {α β γ δ : Type} {a a' : α} {b b' : β} {c c' : γ} {d d' : δ} (h : some (a, b, c, d) = some (a', b', c', d')) : a = a' ∧ b = b' ∧ c = c' ∧ d = d' := by
  cases h
  exact ⟨rfl, rfl, rfl, rfl⟩
theorem jcat_1 {x : Value} (h : jcat x = true) : x.category = 1 := by
  cases x <;> first | rfl | cases h
theorem jcond_ite {α : Type} (b : Bool) (x y : α) : cond b x y = if b = true then x else y := by
  cases b <;> rfl
theorem jite_some {α : Type} {q : Prop} {_ : Decidable q} {x : Option α} {y : α} (h : (if q then x else none) = some y) : q ∧ x = some y := by
  by_cases hq : q
  · rw [if_pos hq] at h; exact ⟨hq, h⟩
  · rw [if_neg hq] at h; cases h
theorem jz_narrow {y : Int32} (h : y = 0 ∨ y = 1) : narrow .boolean (.int y) = .int y := by
  rcases h with rfl | rfl <;> rfl
theorem jz_fits {y : Int32} (h : y = 0 ∨ y = 1) : fits .boolean (.int y) = true := by
  rcases h with rfl | rfl <;> rfl
theorem jr_narrow {ty : FieldType} {r : Nat} (h : (∃ n, ty = .object n) ∨ ∃ t, ty = .array t) : narrow ty (.ref r) = .ref r := by
  rcases h with ⟨n, rfl⟩ | ⟨t, rfl⟩ <;> rfl
theorem jr_fits {ty : FieldType} {r : Nat} (h : (∃ n, ty = .object n) ∨ ∃ t, ty = .array t) : fits ty (.ref r) = true := by
  rcases h with ⟨n, rfl⟩ | ⟨t, rfl⟩ <;> rfl
theorem jplain {B : Nat} {EX : Nat → Nat} : ∀ {fs : List Value}, fs.all (fun v => match v with
    | .ref _ => false
    | .retAddr _ => false
    | _ => true) = true → fs.map (jcv B EX) = fs
  | [], _ => rfl
  | v :: fs, h => by
    rw [List.all_cons, Bool.and_eq_true] at h
    rw [List.map_cons, jplain h.2]
    cases v <;> first | rfl | cases h.1
theorem jnew_at {D : va_G} {cA : Nat → ClassId} {B nc0 cells sz : Nat} {EX : Nat → Nat} {h : jH} {q : Nat} {E : va_E} {H1 : Heap} (hP1 : va_P D jcls (jws cA B EX h.1 ++ [(q, E)]) H1) (hD1 : va_D (fun q => B ≤ q) (jws cA B EX h.1 ++ [(q, E)]))
    (hsz1 : H1.size ≤ sz + (cells + 1)) (hsz : sz ≤ B + nc0) (hlen : h.1.length = h.2.1) (hc : cells + nc0 = h.2.1) : q = B + h.1.length := by
  have hl : (jws cA B EX h.1).length = h.1.length := jws_len
  have hq : (jws cA B EX h.1 ++ [(q, E)])[h.1.length]? = some (q, E) := by
    rw [List.getElem?_append_right (by rw [hl]; exact Nat.le_refl _), hl, Nat.sub_self]
    rfl
  have h1 : q < H1.size := (hP1 _ _ hq).lt
  have h2 : B ≤ q := hD1.2 _ _ hq
  by_cases h3 : q < B + h.1.length
  · obtain ⟨c, hcc⟩ : ∃ c, jnth h.1 (q - B) = some c := by
      rw [jnth_eq]
      exact ⟨_, List.getElem?_eq_getElem (by omega)⟩
    have h4 : (jws cA B EX h.1 ++ [(q, E)])[q - B]? = some (B + (q - B), jce cA B EX c) := by
      rw [List.getElem?_append_left (by rw [hl]; omega)]
      exact jws_get hcc
    have h5 := hD1.1 _ _ _ _ h4 hq (by show B + (q - B) = q; omega)
    omega
  · omega
theorem jtag_eq {D : va_G} {cl : List vw_C} {cA : Nat → ClassId} {s : State} {cA2 : ClassId} {ty : FieldType} (h1 : va_K D cl (jtys cA) s) (h2 : va_K D cl (jtys cA ++ [(cA2, ty)]) s) (k : Nat) (hk : (jtys cA)[k]? = some (cA k, ty)) : cA2 = cA k := by
  have e1 := (h1.2 k _ hk).2
  have hq : (jtys cA ++ [(cA2, ty)])[4]? = some (cA2, ty) := rfl
  have e2 := (h2.2 4 _ hq).2
  cases ty with
  | object C =>
    obtain ⟨_, _, _, _, _, f1⟩ := e1
    obtain ⟨_, _, _, _, _, f2⟩ := e2
    exact Option.some.inj (f2.symm.trans f1)
  | _ => exact Option.some.inj (Eq.trans (Eq.symm e2) e1)
theorem jarr_int : Jvm.Cond.arrayClass .int ∈ jG := jGm (jT 124 (by decide +kernel)) rfl
theorem jarr_long : Jvm.Cond.arrayClass .long ∈ jG := jGm (jT 363 (by decide +kernel)) rfl
theorem jarr_boolean : Jvm.Cond.arrayClass .boolean ∈ jG := jGm (jT 1404 (by decide +kernel)) rfl
theorem jtys_at {cA : Nat → ClassId} {t : Nat} (h : t ≤ 3) : ∃ ty, (jtys cA)[t]? = some (cA t, ty) := by
  match t, h with
  | 0, _ => exact ⟨_, rfl⟩
  | 1, _ => exact ⟨_, rfl⟩
  | 2, _ => exact ⟨_, rfl⟩
  | 3, _ => exact ⟨_, rfl⟩
  | t + 4, h => omega
theorem jca_len {B : Nat} {x : vp_A} : (jca B x).1 = x.1 := by
  obtain ⟨n, f | f | f | f | f⟩ := x <;> rfl
theorem jswt_spec {pcs : List (Nat × Nat)} {pc d : Nat} {x : Int32} : ∀ {os : List Int} {sw : List (Int32 × Nat)} {lo : Int}, jswt pcs pc lo os sw = true →
    (lo ≤ x.toInt → x.toInt < lo + os.length → ∃ t off, jsw sw d x = t ∧ os[(x.toInt - lo).toNat]? = some off ∧ (pc : Int) + off = (jpc pcs t : Int)) ∧ (x.toInt < lo ∨ lo + os.length ≤ x.toInt → jsw sw d x = d)
  | [], [], lo, _ => ⟨fun h1 h2 => by simp at h2; omega, fun _ => rfl⟩
  | [], _ :: _, lo, h => by cases h
  | _ :: _, [], lo, h => by cases h
  | o :: os, (k, t) :: sw, lo, h => by
    unfold jswt at h
    simp only [Bool.and_eq_true, decide_eq_true_eq] at h
    obtain ⟨⟨h1, h2⟩, h3⟩ := h
    obtain ⟨g1, g2⟩ := jswt_spec (d := d) (x := x) h3
    have e2 : (pc : Int) + o = (jpc pcs t : Int) := by
      unfold jpc
      split at h2
      · rename_i q len2 hq
        simp only [hq]
        simpa using h2
      · cases h2
    by_cases hk : x = k
    · subst hk
      refine ⟨fun _ _ => ⟨t, o, by simp [jsw], by rw [h1, Int.sub_self]; rfl, e2⟩, fun h4 => ?_⟩
      simp only [List.length_cons] at h4
      omega
    · have hne : x.toInt ≠ lo := fun e => hk (Int32.toInt_inj.mp (e.trans h1.symm))
      have hj : jsw ((k, t) :: sw) d x = jsw sw d x := by simp [jsw, hk]
      rw [hj]
      refine ⟨fun h4 h5 => ?_, fun h4 => g2 (by simp only [List.length_cons] at h4; omega)⟩
      simp only [List.length_cons] at h5
      obtain ⟨t2, off, f1, f2, f3⟩ := g1 (by omega) (by omega)
      refine ⟨t2, off, f1, ?_, f3⟩
      rw [show (x.toInt - lo).toNat = (x.toInt - (lo + 1)).toNat + 1 by omega]
      exact f2
theorem jlks_spec {pcs : List (Nat × Nat)} {pc d : Nat} {x : Int32} {df : Int} (hd : (pc : Int) + df = (jpc pcs d : Int)) : ∀ {os : List (Int × Int)} {sw : List (Int32 × Nat)}, jlks pcs pc os sw = true →
    (pc : Int) + Op.lookupswitch.offset os df x.toInt = (jpc pcs (jsw sw d x) : Int)
  | [], [], _ => hd
  | [], _ :: _, h => by cases h
  | _ :: _, [], h => by cases h
  | (v, o) :: os, (k, t) :: sw, h => by
    unfold jlks at h
    simp only [Bool.and_eq_true, decide_eq_true_eq] at h
    obtain ⟨⟨h1, h2⟩, h3⟩ := h
    have g := jlks_spec (x := x) hd h3
    have e2 : (pc : Int) + o = (jpc pcs t : Int) := by
      unfold jpc
      split at h2
      · rename_i q len2 hq
        simp only [hq]
        simpa using h2
      · cases h2
    by_cases hk : x = k
    · subst hk
      simp [Op.lookupswitch.offset, jsw, h1, e2]
    · have hne : ¬ v = x.toInt := fun e => hk (Int32.toInt_inj.mp (e.symm.trans h1.symm))
      simp [Op.lookupswitch.offset, jsw, hk, hne]
      first | exact g | (simp [Op.lookupswitch.offset] at g; exact g)
section JST
variable {p : Program} {l : Launch} {en : Env} {R : Room} {s : State} {m : MethodId} {args : Array Value} {below : List Frame} {meth : Method} {c : Code} {Q : State → Prop}
variable {cc : ByteArray} {nL own : Nat} {isI : Bool} {D : va_G} {cA : Nat → ClassId} {B : Nat} {EX adV : Nat → Nat} {Ln : Nat} {xs : Nat → Int32} {nc0 ns0 : Nat}
theorem W.bnd {H : Heap} {locs : List Loc} {cells slots : Nat} {g : JFrame} (k : H.size ≤ s.heap.size + cells → W p l en R s m args below meth c H locs cells slots Q g) : W p l en R s m args below meth c H locs cells slots Q g := by
  intro T hT X
  have h1 := X.heapSize
  rw [hT] at h1
  exact k h1 T hT X
set_option maxRecDepth 4000 in
theorem jS_iadd  {pcs : List (Nat × Nat)} {i nx a b : Nat} {v : Value} {sw : List (Int32 × Nat)} {pc len : Nat} {L L' : jL} {S S' : List Value} {h h' : jH} {pc' : Nat} (C0 : jC p s args m meth c cc nL own isI D cA B EX adV Ln xs nc0) (hp : jnth pcs i = some (pc, len))
    {H : Heap} {locs : List Loc} {ls : Array Slot} {cells slots : Nat} (hP : va_P D jcls (jws cA B EX h.1) H) (hS : va_S (fun q => B ≤ q) s.heap H locs) (hL : jLok B EX nL L ls) (hc : cells + nc0 = h.2.1) (hs : slots + ns0 = h.2.2.1) (hz : h.2.2.2 = (Ln, xs))
    (hR : h'.2.1 ≤ nc0 + R.cells ∧ h'.2.2.1 ≤ ns0 + R.slots)
    (kk : ∀ (H' : Heap) (locs' : List Loc) (ls' : Array Slot) (cells' slots' : Nat), va_P D jcls (jws cA B EX h'.1) H' → va_S (fun q => B ≤ q) s.heap H' locs' → jLok B EX nL L' ls' → cells' + nc0 = h'.2.1 → slots' + ns0 = h'.2.2.1 → h'.2.2.2 = (Ln, xs) → W p l en R s m args below meth c H' locs' cells' slots' Q (F0 m (jpc pcs pc') ls' (S'.map (jcv B EX)))) (hd : decode cc pc = .ok (.iadd, len)) (hn : jnxok pcs pc len nx 1 = true) (hst : jstep (.iadd, nx, a, b, v, sw) L S h = some (pc', L', S', h')) : W p l en R s m args below meth c H locs cells slots Q (F0 m (jpc pcs i) ls (S.map (jcv B EX))) := by
  obtain ⟨hx, hb, hml, hown, hin, hts, hK, hBs, hsz, hF, hlk⟩ := C0
  have hpc : jpc pcs i = pc := by simp [jpc, hp]
  rw [hpc]
  unfold jstep at hst
  dsimp only at hst
  obtain ⟨rfl, e1⟩ := jnx_spec hn
  split at hst
  · rename_i y x S1
    obtain ⟨rfl, rfl, rfl, rfl⟩ := jsome4 hst
    show W p l en R s m args below meth c H locs cells slots Q (F0 m pc ls (.int y :: .int x :: S1.map (jcv B EX)))
    refine lv_iadd hx hb hd ?_
    rw [← e1]
    exact kk _ _ _ _ _ hP hS hL hc hs hz
  · cases hst

set_option maxRecDepth 4000 in
theorem jS_isub  {pcs : List (Nat × Nat)} {i nx a b : Nat} {v : Value} {sw : List (Int32 × Nat)} {pc len : Nat} {L L' : jL} {S S' : List Value} {h h' : jH} {pc' : Nat} (C0 : jC p s args m meth c cc nL own isI D cA B EX adV Ln xs nc0) (hp : jnth pcs i = some (pc, len))
    {H : Heap} {locs : List Loc} {ls : Array Slot} {cells slots : Nat} (hP : va_P D jcls (jws cA B EX h.1) H) (hS : va_S (fun q => B ≤ q) s.heap H locs) (hL : jLok B EX nL L ls) (hc : cells + nc0 = h.2.1) (hs : slots + ns0 = h.2.2.1) (hz : h.2.2.2 = (Ln, xs))
    (hR : h'.2.1 ≤ nc0 + R.cells ∧ h'.2.2.1 ≤ ns0 + R.slots)
    (kk : ∀ (H' : Heap) (locs' : List Loc) (ls' : Array Slot) (cells' slots' : Nat), va_P D jcls (jws cA B EX h'.1) H' → va_S (fun q => B ≤ q) s.heap H' locs' → jLok B EX nL L' ls' → cells' + nc0 = h'.2.1 → slots' + ns0 = h'.2.2.1 → h'.2.2.2 = (Ln, xs) → W p l en R s m args below meth c H' locs' cells' slots' Q (F0 m (jpc pcs pc') ls' (S'.map (jcv B EX)))) (hd : decode cc pc = .ok (.isub, len)) (hn : jnxok pcs pc len nx 1 = true) (hst : jstep (.isub, nx, a, b, v, sw) L S h = some (pc', L', S', h')) : W p l en R s m args below meth c H locs cells slots Q (F0 m (jpc pcs i) ls (S.map (jcv B EX))) := by
  obtain ⟨hx, hb, hml, hown, hin, hts, hK, hBs, hsz, hF, hlk⟩ := C0
  have hpc : jpc pcs i = pc := by simp [jpc, hp]
  rw [hpc]
  unfold jstep at hst
  dsimp only at hst
  obtain ⟨rfl, e1⟩ := jnx_spec hn
  split at hst
  · rename_i y x S1
    obtain ⟨rfl, rfl, rfl, rfl⟩ := jsome4 hst
    show W p l en R s m args below meth c H locs cells slots Q (F0 m pc ls (.int y :: .int x :: S1.map (jcv B EX)))
    refine lv_isub hx hb hd ?_
    rw [← e1]
    exact kk _ _ _ _ _ hP hS hL hc hs hz
  · cases hst

set_option maxRecDepth 4000 in
theorem jS_imul  {pcs : List (Nat × Nat)} {i nx a b : Nat} {v : Value} {sw : List (Int32 × Nat)} {pc len : Nat} {L L' : jL} {S S' : List Value} {h h' : jH} {pc' : Nat} (C0 : jC p s args m meth c cc nL own isI D cA B EX adV Ln xs nc0) (hp : jnth pcs i = some (pc, len))
    {H : Heap} {locs : List Loc} {ls : Array Slot} {cells slots : Nat} (hP : va_P D jcls (jws cA B EX h.1) H) (hS : va_S (fun q => B ≤ q) s.heap H locs) (hL : jLok B EX nL L ls) (hc : cells + nc0 = h.2.1) (hs : slots + ns0 = h.2.2.1) (hz : h.2.2.2 = (Ln, xs))
    (hR : h'.2.1 ≤ nc0 + R.cells ∧ h'.2.2.1 ≤ ns0 + R.slots)
    (kk : ∀ (H' : Heap) (locs' : List Loc) (ls' : Array Slot) (cells' slots' : Nat), va_P D jcls (jws cA B EX h'.1) H' → va_S (fun q => B ≤ q) s.heap H' locs' → jLok B EX nL L' ls' → cells' + nc0 = h'.2.1 → slots' + ns0 = h'.2.2.1 → h'.2.2.2 = (Ln, xs) → W p l en R s m args below meth c H' locs' cells' slots' Q (F0 m (jpc pcs pc') ls' (S'.map (jcv B EX)))) (hd : decode cc pc = .ok (.imul, len)) (hn : jnxok pcs pc len nx 1 = true) (hst : jstep (.imul, nx, a, b, v, sw) L S h = some (pc', L', S', h')) : W p l en R s m args below meth c H locs cells slots Q (F0 m (jpc pcs i) ls (S.map (jcv B EX))) := by
  obtain ⟨hx, hb, hml, hown, hin, hts, hK, hBs, hsz, hF, hlk⟩ := C0
  have hpc : jpc pcs i = pc := by simp [jpc, hp]
  rw [hpc]
  unfold jstep at hst
  dsimp only at hst
  obtain ⟨rfl, e1⟩ := jnx_spec hn
  split at hst
  · rename_i y x S1
    obtain ⟨rfl, rfl, rfl, rfl⟩ := jsome4 hst
    show W p l en R s m args below meth c H locs cells slots Q (F0 m pc ls (.int y :: .int x :: S1.map (jcv B EX)))
    refine lv_imul hx hb hd ?_
    rw [← e1]
    exact kk _ _ _ _ _ hP hS hL hc hs hz
  · cases hst

set_option maxRecDepth 4000 in
theorem jS_iand  {pcs : List (Nat × Nat)} {i nx a b : Nat} {v : Value} {sw : List (Int32 × Nat)} {pc len : Nat} {L L' : jL} {S S' : List Value} {h h' : jH} {pc' : Nat} (C0 : jC p s args m meth c cc nL own isI D cA B EX adV Ln xs nc0) (hp : jnth pcs i = some (pc, len))
    {H : Heap} {locs : List Loc} {ls : Array Slot} {cells slots : Nat} (hP : va_P D jcls (jws cA B EX h.1) H) (hS : va_S (fun q => B ≤ q) s.heap H locs) (hL : jLok B EX nL L ls) (hc : cells + nc0 = h.2.1) (hs : slots + ns0 = h.2.2.1) (hz : h.2.2.2 = (Ln, xs))
    (hR : h'.2.1 ≤ nc0 + R.cells ∧ h'.2.2.1 ≤ ns0 + R.slots)
    (kk : ∀ (H' : Heap) (locs' : List Loc) (ls' : Array Slot) (cells' slots' : Nat), va_P D jcls (jws cA B EX h'.1) H' → va_S (fun q => B ≤ q) s.heap H' locs' → jLok B EX nL L' ls' → cells' + nc0 = h'.2.1 → slots' + ns0 = h'.2.2.1 → h'.2.2.2 = (Ln, xs) → W p l en R s m args below meth c H' locs' cells' slots' Q (F0 m (jpc pcs pc') ls' (S'.map (jcv B EX)))) (hd : decode cc pc = .ok (.iand, len)) (hn : jnxok pcs pc len nx 1 = true) (hst : jstep (.iand, nx, a, b, v, sw) L S h = some (pc', L', S', h')) : W p l en R s m args below meth c H locs cells slots Q (F0 m (jpc pcs i) ls (S.map (jcv B EX))) := by
  obtain ⟨hx, hb, hml, hown, hin, hts, hK, hBs, hsz, hF, hlk⟩ := C0
  have hpc : jpc pcs i = pc := by simp [jpc, hp]
  rw [hpc]
  unfold jstep at hst
  dsimp only at hst
  obtain ⟨rfl, e1⟩ := jnx_spec hn
  split at hst
  · rename_i y x S1
    obtain ⟨rfl, rfl, rfl, rfl⟩ := jsome4 hst
    show W p l en R s m args below meth c H locs cells slots Q (F0 m pc ls (.int y :: .int x :: S1.map (jcv B EX)))
    refine lv_iand hx hb hd ?_
    rw [← e1]
    exact kk _ _ _ _ _ hP hS hL hc hs hz
  · cases hst

set_option maxRecDepth 4000 in
theorem jS_ior  {pcs : List (Nat × Nat)} {i nx a b : Nat} {v : Value} {sw : List (Int32 × Nat)} {pc len : Nat} {L L' : jL} {S S' : List Value} {h h' : jH} {pc' : Nat} (C0 : jC p s args m meth c cc nL own isI D cA B EX adV Ln xs nc0) (hp : jnth pcs i = some (pc, len))
    {H : Heap} {locs : List Loc} {ls : Array Slot} {cells slots : Nat} (hP : va_P D jcls (jws cA B EX h.1) H) (hS : va_S (fun q => B ≤ q) s.heap H locs) (hL : jLok B EX nL L ls) (hc : cells + nc0 = h.2.1) (hs : slots + ns0 = h.2.2.1) (hz : h.2.2.2 = (Ln, xs))
    (hR : h'.2.1 ≤ nc0 + R.cells ∧ h'.2.2.1 ≤ ns0 + R.slots)
    (kk : ∀ (H' : Heap) (locs' : List Loc) (ls' : Array Slot) (cells' slots' : Nat), va_P D jcls (jws cA B EX h'.1) H' → va_S (fun q => B ≤ q) s.heap H' locs' → jLok B EX nL L' ls' → cells' + nc0 = h'.2.1 → slots' + ns0 = h'.2.2.1 → h'.2.2.2 = (Ln, xs) → W p l en R s m args below meth c H' locs' cells' slots' Q (F0 m (jpc pcs pc') ls' (S'.map (jcv B EX)))) (hd : decode cc pc = .ok (.ior, len)) (hn : jnxok pcs pc len nx 1 = true) (hst : jstep (.ior, nx, a, b, v, sw) L S h = some (pc', L', S', h')) : W p l en R s m args below meth c H locs cells slots Q (F0 m (jpc pcs i) ls (S.map (jcv B EX))) := by
  obtain ⟨hx, hb, hml, hown, hin, hts, hK, hBs, hsz, hF, hlk⟩ := C0
  have hpc : jpc pcs i = pc := by simp [jpc, hp]
  rw [hpc]
  unfold jstep at hst
  dsimp only at hst
  obtain ⟨rfl, e1⟩ := jnx_spec hn
  split at hst
  · rename_i y x S1
    obtain ⟨rfl, rfl, rfl, rfl⟩ := jsome4 hst
    show W p l en R s m args below meth c H locs cells slots Q (F0 m pc ls (.int y :: .int x :: S1.map (jcv B EX)))
    refine lv_ior hx hb hd ?_
    rw [← e1]
    exact kk _ _ _ _ _ hP hS hL hc hs hz
  · cases hst

set_option maxRecDepth 4000 in
theorem jS_ixor  {pcs : List (Nat × Nat)} {i nx a b : Nat} {v : Value} {sw : List (Int32 × Nat)} {pc len : Nat} {L L' : jL} {S S' : List Value} {h h' : jH} {pc' : Nat} (C0 : jC p s args m meth c cc nL own isI D cA B EX adV Ln xs nc0) (hp : jnth pcs i = some (pc, len))
    {H : Heap} {locs : List Loc} {ls : Array Slot} {cells slots : Nat} (hP : va_P D jcls (jws cA B EX h.1) H) (hS : va_S (fun q => B ≤ q) s.heap H locs) (hL : jLok B EX nL L ls) (hc : cells + nc0 = h.2.1) (hs : slots + ns0 = h.2.2.1) (hz : h.2.2.2 = (Ln, xs))
    (hR : h'.2.1 ≤ nc0 + R.cells ∧ h'.2.2.1 ≤ ns0 + R.slots)
    (kk : ∀ (H' : Heap) (locs' : List Loc) (ls' : Array Slot) (cells' slots' : Nat), va_P D jcls (jws cA B EX h'.1) H' → va_S (fun q => B ≤ q) s.heap H' locs' → jLok B EX nL L' ls' → cells' + nc0 = h'.2.1 → slots' + ns0 = h'.2.2.1 → h'.2.2.2 = (Ln, xs) → W p l en R s m args below meth c H' locs' cells' slots' Q (F0 m (jpc pcs pc') ls' (S'.map (jcv B EX)))) (hd : decode cc pc = .ok (.ixor, len)) (hn : jnxok pcs pc len nx 1 = true) (hst : jstep (.ixor, nx, a, b, v, sw) L S h = some (pc', L', S', h')) : W p l en R s m args below meth c H locs cells slots Q (F0 m (jpc pcs i) ls (S.map (jcv B EX))) := by
  obtain ⟨hx, hb, hml, hown, hin, hts, hK, hBs, hsz, hF, hlk⟩ := C0
  have hpc : jpc pcs i = pc := by simp [jpc, hp]
  rw [hpc]
  unfold jstep at hst
  dsimp only at hst
  obtain ⟨rfl, e1⟩ := jnx_spec hn
  split at hst
  · rename_i y x S1
    obtain ⟨rfl, rfl, rfl, rfl⟩ := jsome4 hst
    show W p l en R s m args below meth c H locs cells slots Q (F0 m pc ls (.int y :: .int x :: S1.map (jcv B EX)))
    refine lv_ixor hx hb hd ?_
    rw [← e1]
    exact kk _ _ _ _ _ hP hS hL hc hs hz
  · cases hst

set_option maxRecDepth 4000 in
theorem jS_ishl  {pcs : List (Nat × Nat)} {i nx a b : Nat} {v : Value} {sw : List (Int32 × Nat)} {pc len : Nat} {L L' : jL} {S S' : List Value} {h h' : jH} {pc' : Nat} (C0 : jC p s args m meth c cc nL own isI D cA B EX adV Ln xs nc0) (hp : jnth pcs i = some (pc, len))
    {H : Heap} {locs : List Loc} {ls : Array Slot} {cells slots : Nat} (hP : va_P D jcls (jws cA B EX h.1) H) (hS : va_S (fun q => B ≤ q) s.heap H locs) (hL : jLok B EX nL L ls) (hc : cells + nc0 = h.2.1) (hs : slots + ns0 = h.2.2.1) (hz : h.2.2.2 = (Ln, xs))
    (hR : h'.2.1 ≤ nc0 + R.cells ∧ h'.2.2.1 ≤ ns0 + R.slots)
    (kk : ∀ (H' : Heap) (locs' : List Loc) (ls' : Array Slot) (cells' slots' : Nat), va_P D jcls (jws cA B EX h'.1) H' → va_S (fun q => B ≤ q) s.heap H' locs' → jLok B EX nL L' ls' → cells' + nc0 = h'.2.1 → slots' + ns0 = h'.2.2.1 → h'.2.2.2 = (Ln, xs) → W p l en R s m args below meth c H' locs' cells' slots' Q (F0 m (jpc pcs pc') ls' (S'.map (jcv B EX)))) (hd : decode cc pc = .ok (.ishl, len)) (hn : jnxok pcs pc len nx 1 = true) (hst : jstep (.ishl, nx, a, b, v, sw) L S h = some (pc', L', S', h')) : W p l en R s m args below meth c H locs cells slots Q (F0 m (jpc pcs i) ls (S.map (jcv B EX))) := by
  obtain ⟨hx, hb, hml, hown, hin, hts, hK, hBs, hsz, hF, hlk⟩ := C0
  have hpc : jpc pcs i = pc := by simp [jpc, hp]
  rw [hpc]
  unfold jstep at hst
  dsimp only at hst
  obtain ⟨rfl, e1⟩ := jnx_spec hn
  split at hst
  · rename_i y x S1
    obtain ⟨rfl, rfl, rfl, rfl⟩ := jsome4 hst
    show W p l en R s m args below meth c H locs cells slots Q (F0 m pc ls (.int y :: .int x :: S1.map (jcv B EX)))
    refine lv_ishl hx hb hd ?_
    rw [← e1]
    exact kk _ _ _ _ _ hP hS hL hc hs hz
  · cases hst

set_option maxRecDepth 4000 in
theorem jS_ishr  {pcs : List (Nat × Nat)} {i nx a b : Nat} {v : Value} {sw : List (Int32 × Nat)} {pc len : Nat} {L L' : jL} {S S' : List Value} {h h' : jH} {pc' : Nat} (C0 : jC p s args m meth c cc nL own isI D cA B EX adV Ln xs nc0) (hp : jnth pcs i = some (pc, len))
    {H : Heap} {locs : List Loc} {ls : Array Slot} {cells slots : Nat} (hP : va_P D jcls (jws cA B EX h.1) H) (hS : va_S (fun q => B ≤ q) s.heap H locs) (hL : jLok B EX nL L ls) (hc : cells + nc0 = h.2.1) (hs : slots + ns0 = h.2.2.1) (hz : h.2.2.2 = (Ln, xs))
    (hR : h'.2.1 ≤ nc0 + R.cells ∧ h'.2.2.1 ≤ ns0 + R.slots)
    (kk : ∀ (H' : Heap) (locs' : List Loc) (ls' : Array Slot) (cells' slots' : Nat), va_P D jcls (jws cA B EX h'.1) H' → va_S (fun q => B ≤ q) s.heap H' locs' → jLok B EX nL L' ls' → cells' + nc0 = h'.2.1 → slots' + ns0 = h'.2.2.1 → h'.2.2.2 = (Ln, xs) → W p l en R s m args below meth c H' locs' cells' slots' Q (F0 m (jpc pcs pc') ls' (S'.map (jcv B EX)))) (hd : decode cc pc = .ok (.ishr, len)) (hn : jnxok pcs pc len nx 1 = true) (hst : jstep (.ishr, nx, a, b, v, sw) L S h = some (pc', L', S', h')) : W p l en R s m args below meth c H locs cells slots Q (F0 m (jpc pcs i) ls (S.map (jcv B EX))) := by
  obtain ⟨hx, hb, hml, hown, hin, hts, hK, hBs, hsz, hF, hlk⟩ := C0
  have hpc : jpc pcs i = pc := by simp [jpc, hp]
  rw [hpc]
  unfold jstep at hst
  dsimp only at hst
  obtain ⟨rfl, e1⟩ := jnx_spec hn
  split at hst
  · rename_i y x S1
    obtain ⟨rfl, rfl, rfl, rfl⟩ := jsome4 hst
    show W p l en R s m args below meth c H locs cells slots Q (F0 m pc ls (.int y :: .int x :: S1.map (jcv B EX)))
    refine lv_ishr hx hb hd ?_
    rw [← e1]
    exact kk _ _ _ _ _ hP hS hL hc hs hz
  · cases hst

set_option maxRecDepth 4000 in
theorem jS_iushr  {pcs : List (Nat × Nat)} {i nx a b : Nat} {v : Value} {sw : List (Int32 × Nat)} {pc len : Nat} {L L' : jL} {S S' : List Value} {h h' : jH} {pc' : Nat} (C0 : jC p s args m meth c cc nL own isI D cA B EX adV Ln xs nc0) (hp : jnth pcs i = some (pc, len))
    {H : Heap} {locs : List Loc} {ls : Array Slot} {cells slots : Nat} (hP : va_P D jcls (jws cA B EX h.1) H) (hS : va_S (fun q => B ≤ q) s.heap H locs) (hL : jLok B EX nL L ls) (hc : cells + nc0 = h.2.1) (hs : slots + ns0 = h.2.2.1) (hz : h.2.2.2 = (Ln, xs))
    (hR : h'.2.1 ≤ nc0 + R.cells ∧ h'.2.2.1 ≤ ns0 + R.slots)
    (kk : ∀ (H' : Heap) (locs' : List Loc) (ls' : Array Slot) (cells' slots' : Nat), va_P D jcls (jws cA B EX h'.1) H' → va_S (fun q => B ≤ q) s.heap H' locs' → jLok B EX nL L' ls' → cells' + nc0 = h'.2.1 → slots' + ns0 = h'.2.2.1 → h'.2.2.2 = (Ln, xs) → W p l en R s m args below meth c H' locs' cells' slots' Q (F0 m (jpc pcs pc') ls' (S'.map (jcv B EX)))) (hd : decode cc pc = .ok (.iushr, len)) (hn : jnxok pcs pc len nx 1 = true) (hst : jstep (.iushr, nx, a, b, v, sw) L S h = some (pc', L', S', h')) : W p l en R s m args below meth c H locs cells slots Q (F0 m (jpc pcs i) ls (S.map (jcv B EX))) := by
  obtain ⟨hx, hb, hml, hown, hin, hts, hK, hBs, hsz, hF, hlk⟩ := C0
  have hpc : jpc pcs i = pc := by simp [jpc, hp]
  rw [hpc]
  unfold jstep at hst
  dsimp only at hst
  obtain ⟨rfl, e1⟩ := jnx_spec hn
  split at hst
  · rename_i y x S1
    obtain ⟨rfl, rfl, rfl, rfl⟩ := jsome4 hst
    show W p l en R s m args below meth c H locs cells slots Q (F0 m pc ls (.int y :: .int x :: S1.map (jcv B EX)))
    refine lv_iushr hx hb hd rfl ?_
    rw [← e1]
    exact kk _ _ _ _ _ hP hS hL hc hs hz
  · cases hst

set_option maxRecDepth 4000 in
theorem jS_idiv  {pcs : List (Nat × Nat)} {i nx a b : Nat} {v : Value} {sw : List (Int32 × Nat)} {pc len : Nat} {L L' : jL} {S S' : List Value} {h h' : jH} {pc' : Nat} (C0 : jC p s args m meth c cc nL own isI D cA B EX adV Ln xs nc0) (hp : jnth pcs i = some (pc, len))
    {H : Heap} {locs : List Loc} {ls : Array Slot} {cells slots : Nat} (hP : va_P D jcls (jws cA B EX h.1) H) (hS : va_S (fun q => B ≤ q) s.heap H locs) (hL : jLok B EX nL L ls) (hc : cells + nc0 = h.2.1) (hs : slots + ns0 = h.2.2.1) (hz : h.2.2.2 = (Ln, xs))
    (hR : h'.2.1 ≤ nc0 + R.cells ∧ h'.2.2.1 ≤ ns0 + R.slots)
    (kk : ∀ (H' : Heap) (locs' : List Loc) (ls' : Array Slot) (cells' slots' : Nat), va_P D jcls (jws cA B EX h'.1) H' → va_S (fun q => B ≤ q) s.heap H' locs' → jLok B EX nL L' ls' → cells' + nc0 = h'.2.1 → slots' + ns0 = h'.2.2.1 → h'.2.2.2 = (Ln, xs) → W p l en R s m args below meth c H' locs' cells' slots' Q (F0 m (jpc pcs pc') ls' (S'.map (jcv B EX)))) (hd : decode cc pc = .ok (.idiv, len)) (hn : jnxok pcs pc len nx 1 = true) (hst : jstep (.idiv, nx, a, b, v, sw) L S h = some (pc', L', S', h')) : W p l en R s m args below meth c H locs cells slots Q (F0 m (jpc pcs i) ls (S.map (jcv B EX))) := by
  obtain ⟨hx, hb, hml, hown, hin, hts, hK, hBs, hsz, hF, hlk⟩ := C0
  have hpc : jpc pcs i = pc := by simp [jpc, hp]
  rw [hpc]
  unfold jstep at hst
  dsimp only at hst
  obtain ⟨rfl, e1⟩ := jnx_spec hn
  split at hst
  · rename_i y x S1
    split at hst
    · cases hst
    · rename_i hg
      obtain ⟨rfl, rfl, rfl, rfl⟩ := jsome4 hst
      show W p l en R s m args below meth c H locs cells slots Q (F0 m pc ls (.int y :: .int x :: S1.map (jcv B EX)))
      refine lv_idiv hx hb hd hg ?_
      rw [← e1]
      exact kk _ _ _ _ _ hP hS hL hc hs hz
  · cases hst

set_option maxRecDepth 4000 in
theorem jS_irem  {pcs : List (Nat × Nat)} {i nx a b : Nat} {v : Value} {sw : List (Int32 × Nat)} {pc len : Nat} {L L' : jL} {S S' : List Value} {h h' : jH} {pc' : Nat} (C0 : jC p s args m meth c cc nL own isI D cA B EX adV Ln xs nc0) (hp : jnth pcs i = some (pc, len))
    {H : Heap} {locs : List Loc} {ls : Array Slot} {cells slots : Nat} (hP : va_P D jcls (jws cA B EX h.1) H) (hS : va_S (fun q => B ≤ q) s.heap H locs) (hL : jLok B EX nL L ls) (hc : cells + nc0 = h.2.1) (hs : slots + ns0 = h.2.2.1) (hz : h.2.2.2 = (Ln, xs))
    (hR : h'.2.1 ≤ nc0 + R.cells ∧ h'.2.2.1 ≤ ns0 + R.slots)
    (kk : ∀ (H' : Heap) (locs' : List Loc) (ls' : Array Slot) (cells' slots' : Nat), va_P D jcls (jws cA B EX h'.1) H' → va_S (fun q => B ≤ q) s.heap H' locs' → jLok B EX nL L' ls' → cells' + nc0 = h'.2.1 → slots' + ns0 = h'.2.2.1 → h'.2.2.2 = (Ln, xs) → W p l en R s m args below meth c H' locs' cells' slots' Q (F0 m (jpc pcs pc') ls' (S'.map (jcv B EX)))) (hd : decode cc pc = .ok (.irem, len)) (hn : jnxok pcs pc len nx 1 = true) (hst : jstep (.irem, nx, a, b, v, sw) L S h = some (pc', L', S', h')) : W p l en R s m args below meth c H locs cells slots Q (F0 m (jpc pcs i) ls (S.map (jcv B EX))) := by
  obtain ⟨hx, hb, hml, hown, hin, hts, hK, hBs, hsz, hF, hlk⟩ := C0
  have hpc : jpc pcs i = pc := by simp [jpc, hp]
  rw [hpc]
  unfold jstep at hst
  dsimp only at hst
  obtain ⟨rfl, e1⟩ := jnx_spec hn
  split at hst
  · rename_i y x S1
    split at hst
    · cases hst
    · rename_i hg
      obtain ⟨rfl, rfl, rfl, rfl⟩ := jsome4 hst
      show W p l en R s m args below meth c H locs cells slots Q (F0 m pc ls (.int y :: .int x :: S1.map (jcv B EX)))
      refine lv_irem hx hb hd hg ?_
      rw [← e1]
      exact kk _ _ _ _ _ hP hS hL hc hs hz
  · cases hst

set_option maxRecDepth 4000 in
theorem jS_ineg  {pcs : List (Nat × Nat)} {i nx a b : Nat} {v : Value} {sw : List (Int32 × Nat)} {pc len : Nat} {L L' : jL} {S S' : List Value} {h h' : jH} {pc' : Nat} (C0 : jC p s args m meth c cc nL own isI D cA B EX adV Ln xs nc0) (hp : jnth pcs i = some (pc, len))
    {H : Heap} {locs : List Loc} {ls : Array Slot} {cells slots : Nat} (hP : va_P D jcls (jws cA B EX h.1) H) (hS : va_S (fun q => B ≤ q) s.heap H locs) (hL : jLok B EX nL L ls) (hc : cells + nc0 = h.2.1) (hs : slots + ns0 = h.2.2.1) (hz : h.2.2.2 = (Ln, xs))
    (hR : h'.2.1 ≤ nc0 + R.cells ∧ h'.2.2.1 ≤ ns0 + R.slots)
    (kk : ∀ (H' : Heap) (locs' : List Loc) (ls' : Array Slot) (cells' slots' : Nat), va_P D jcls (jws cA B EX h'.1) H' → va_S (fun q => B ≤ q) s.heap H' locs' → jLok B EX nL L' ls' → cells' + nc0 = h'.2.1 → slots' + ns0 = h'.2.2.1 → h'.2.2.2 = (Ln, xs) → W p l en R s m args below meth c H' locs' cells' slots' Q (F0 m (jpc pcs pc') ls' (S'.map (jcv B EX)))) (hd : decode cc pc = .ok (.ineg, len)) (hn : jnxok pcs pc len nx 1 = true) (hst : jstep (.ineg, nx, a, b, v, sw) L S h = some (pc', L', S', h')) : W p l en R s m args below meth c H locs cells slots Q (F0 m (jpc pcs i) ls (S.map (jcv B EX))) := by
  obtain ⟨hx, hb, hml, hown, hin, hts, hK, hBs, hsz, hF, hlk⟩ := C0
  have hpc : jpc pcs i = pc := by simp [jpc, hp]
  rw [hpc]
  unfold jstep at hst
  dsimp only at hst
  obtain ⟨rfl, e1⟩ := jnx_spec hn
  split at hst
  · rename_i x S1
    obtain ⟨rfl, rfl, rfl, rfl⟩ := jsome4 hst
    show W p l en R s m args below meth c H locs cells slots Q (F0 m pc ls (.int x :: S1.map (jcv B EX)))
    refine lv_ineg hx hb hd ?_
    rw [← e1]
    exact kk _ _ _ _ _ hP hS hL hc hs hz
  · cases hst

set_option maxRecDepth 4000 in
theorem jS_ladd  {pcs : List (Nat × Nat)} {i nx a b : Nat} {v : Value} {sw : List (Int32 × Nat)} {pc len : Nat} {L L' : jL} {S S' : List Value} {h h' : jH} {pc' : Nat} (C0 : jC p s args m meth c cc nL own isI D cA B EX adV Ln xs nc0) (hp : jnth pcs i = some (pc, len))
    {H : Heap} {locs : List Loc} {ls : Array Slot} {cells slots : Nat} (hP : va_P D jcls (jws cA B EX h.1) H) (hS : va_S (fun q => B ≤ q) s.heap H locs) (hL : jLok B EX nL L ls) (hc : cells + nc0 = h.2.1) (hs : slots + ns0 = h.2.2.1) (hz : h.2.2.2 = (Ln, xs))
    (hR : h'.2.1 ≤ nc0 + R.cells ∧ h'.2.2.1 ≤ ns0 + R.slots)
    (kk : ∀ (H' : Heap) (locs' : List Loc) (ls' : Array Slot) (cells' slots' : Nat), va_P D jcls (jws cA B EX h'.1) H' → va_S (fun q => B ≤ q) s.heap H' locs' → jLok B EX nL L' ls' → cells' + nc0 = h'.2.1 → slots' + ns0 = h'.2.2.1 → h'.2.2.2 = (Ln, xs) → W p l en R s m args below meth c H' locs' cells' slots' Q (F0 m (jpc pcs pc') ls' (S'.map (jcv B EX)))) (hd : decode cc pc = .ok (.ladd, len)) (hn : jnxok pcs pc len nx 1 = true) (hst : jstep (.ladd, nx, a, b, v, sw) L S h = some (pc', L', S', h')) : W p l en R s m args below meth c H locs cells slots Q (F0 m (jpc pcs i) ls (S.map (jcv B EX))) := by
  obtain ⟨hx, hb, hml, hown, hin, hts, hK, hBs, hsz, hF, hlk⟩ := C0
  have hpc : jpc pcs i = pc := by simp [jpc, hp]
  rw [hpc]
  unfold jstep at hst
  dsimp only at hst
  obtain ⟨rfl, e1⟩ := jnx_spec hn
  split at hst
  · rename_i y x S1
    obtain ⟨rfl, rfl, rfl, rfl⟩ := jsome4 hst
    show W p l en R s m args below meth c H locs cells slots Q (F0 m pc ls (.long y :: .long x :: S1.map (jcv B EX)))
    refine lv_ladd hx hb hd ?_
    rw [← e1]
    exact kk _ _ _ _ _ hP hS hL hc hs hz
  · cases hst

set_option maxRecDepth 4000 in
theorem jS_lsub  {pcs : List (Nat × Nat)} {i nx a b : Nat} {v : Value} {sw : List (Int32 × Nat)} {pc len : Nat} {L L' : jL} {S S' : List Value} {h h' : jH} {pc' : Nat} (C0 : jC p s args m meth c cc nL own isI D cA B EX adV Ln xs nc0) (hp : jnth pcs i = some (pc, len))
    {H : Heap} {locs : List Loc} {ls : Array Slot} {cells slots : Nat} (hP : va_P D jcls (jws cA B EX h.1) H) (hS : va_S (fun q => B ≤ q) s.heap H locs) (hL : jLok B EX nL L ls) (hc : cells + nc0 = h.2.1) (hs : slots + ns0 = h.2.2.1) (hz : h.2.2.2 = (Ln, xs))
    (hR : h'.2.1 ≤ nc0 + R.cells ∧ h'.2.2.1 ≤ ns0 + R.slots)
    (kk : ∀ (H' : Heap) (locs' : List Loc) (ls' : Array Slot) (cells' slots' : Nat), va_P D jcls (jws cA B EX h'.1) H' → va_S (fun q => B ≤ q) s.heap H' locs' → jLok B EX nL L' ls' → cells' + nc0 = h'.2.1 → slots' + ns0 = h'.2.2.1 → h'.2.2.2 = (Ln, xs) → W p l en R s m args below meth c H' locs' cells' slots' Q (F0 m (jpc pcs pc') ls' (S'.map (jcv B EX)))) (hd : decode cc pc = .ok (.lsub, len)) (hn : jnxok pcs pc len nx 1 = true) (hst : jstep (.lsub, nx, a, b, v, sw) L S h = some (pc', L', S', h')) : W p l en R s m args below meth c H locs cells slots Q (F0 m (jpc pcs i) ls (S.map (jcv B EX))) := by
  obtain ⟨hx, hb, hml, hown, hin, hts, hK, hBs, hsz, hF, hlk⟩ := C0
  have hpc : jpc pcs i = pc := by simp [jpc, hp]
  rw [hpc]
  unfold jstep at hst
  dsimp only at hst
  obtain ⟨rfl, e1⟩ := jnx_spec hn
  split at hst
  · rename_i y x S1
    obtain ⟨rfl, rfl, rfl, rfl⟩ := jsome4 hst
    show W p l en R s m args below meth c H locs cells slots Q (F0 m pc ls (.long y :: .long x :: S1.map (jcv B EX)))
    refine lv_lsub hx hb hd ?_
    rw [← e1]
    exact kk _ _ _ _ _ hP hS hL hc hs hz
  · cases hst

set_option maxRecDepth 4000 in
theorem jS_lmul  {pcs : List (Nat × Nat)} {i nx a b : Nat} {v : Value} {sw : List (Int32 × Nat)} {pc len : Nat} {L L' : jL} {S S' : List Value} {h h' : jH} {pc' : Nat} (C0 : jC p s args m meth c cc nL own isI D cA B EX adV Ln xs nc0) (hp : jnth pcs i = some (pc, len))
    {H : Heap} {locs : List Loc} {ls : Array Slot} {cells slots : Nat} (hP : va_P D jcls (jws cA B EX h.1) H) (hS : va_S (fun q => B ≤ q) s.heap H locs) (hL : jLok B EX nL L ls) (hc : cells + nc0 = h.2.1) (hs : slots + ns0 = h.2.2.1) (hz : h.2.2.2 = (Ln, xs))
    (hR : h'.2.1 ≤ nc0 + R.cells ∧ h'.2.2.1 ≤ ns0 + R.slots)
    (kk : ∀ (H' : Heap) (locs' : List Loc) (ls' : Array Slot) (cells' slots' : Nat), va_P D jcls (jws cA B EX h'.1) H' → va_S (fun q => B ≤ q) s.heap H' locs' → jLok B EX nL L' ls' → cells' + nc0 = h'.2.1 → slots' + ns0 = h'.2.2.1 → h'.2.2.2 = (Ln, xs) → W p l en R s m args below meth c H' locs' cells' slots' Q (F0 m (jpc pcs pc') ls' (S'.map (jcv B EX)))) (hd : decode cc pc = .ok (.lmul, len)) (hn : jnxok pcs pc len nx 1 = true) (hst : jstep (.lmul, nx, a, b, v, sw) L S h = some (pc', L', S', h')) : W p l en R s m args below meth c H locs cells slots Q (F0 m (jpc pcs i) ls (S.map (jcv B EX))) := by
  obtain ⟨hx, hb, hml, hown, hin, hts, hK, hBs, hsz, hF, hlk⟩ := C0
  have hpc : jpc pcs i = pc := by simp [jpc, hp]
  rw [hpc]
  unfold jstep at hst
  dsimp only at hst
  obtain ⟨rfl, e1⟩ := jnx_spec hn
  split at hst
  · rename_i y x S1
    obtain ⟨rfl, rfl, rfl, rfl⟩ := jsome4 hst
    show W p l en R s m args below meth c H locs cells slots Q (F0 m pc ls (.long y :: .long x :: S1.map (jcv B EX)))
    refine lv_lmul hx hb hd ?_
    rw [← e1]
    exact kk _ _ _ _ _ hP hS hL hc hs hz
  · cases hst

set_option maxRecDepth 4000 in
theorem jS_land  {pcs : List (Nat × Nat)} {i nx a b : Nat} {v : Value} {sw : List (Int32 × Nat)} {pc len : Nat} {L L' : jL} {S S' : List Value} {h h' : jH} {pc' : Nat} (C0 : jC p s args m meth c cc nL own isI D cA B EX adV Ln xs nc0) (hp : jnth pcs i = some (pc, len))
    {H : Heap} {locs : List Loc} {ls : Array Slot} {cells slots : Nat} (hP : va_P D jcls (jws cA B EX h.1) H) (hS : va_S (fun q => B ≤ q) s.heap H locs) (hL : jLok B EX nL L ls) (hc : cells + nc0 = h.2.1) (hs : slots + ns0 = h.2.2.1) (hz : h.2.2.2 = (Ln, xs))
    (hR : h'.2.1 ≤ nc0 + R.cells ∧ h'.2.2.1 ≤ ns0 + R.slots)
    (kk : ∀ (H' : Heap) (locs' : List Loc) (ls' : Array Slot) (cells' slots' : Nat), va_P D jcls (jws cA B EX h'.1) H' → va_S (fun q => B ≤ q) s.heap H' locs' → jLok B EX nL L' ls' → cells' + nc0 = h'.2.1 → slots' + ns0 = h'.2.2.1 → h'.2.2.2 = (Ln, xs) → W p l en R s m args below meth c H' locs' cells' slots' Q (F0 m (jpc pcs pc') ls' (S'.map (jcv B EX)))) (hd : decode cc pc = .ok (.land, len)) (hn : jnxok pcs pc len nx 1 = true) (hst : jstep (.land, nx, a, b, v, sw) L S h = some (pc', L', S', h')) : W p l en R s m args below meth c H locs cells slots Q (F0 m (jpc pcs i) ls (S.map (jcv B EX))) := by
  obtain ⟨hx, hb, hml, hown, hin, hts, hK, hBs, hsz, hF, hlk⟩ := C0
  have hpc : jpc pcs i = pc := by simp [jpc, hp]
  rw [hpc]
  unfold jstep at hst
  dsimp only at hst
  obtain ⟨rfl, e1⟩ := jnx_spec hn
  split at hst
  · rename_i y x S1
    obtain ⟨rfl, rfl, rfl, rfl⟩ := jsome4 hst
    show W p l en R s m args below meth c H locs cells slots Q (F0 m pc ls (.long y :: .long x :: S1.map (jcv B EX)))
    refine lv_land hx hb hd ?_
    rw [← e1]
    exact kk _ _ _ _ _ hP hS hL hc hs hz
  · cases hst

set_option maxRecDepth 4000 in
theorem jS_ldiv  {pcs : List (Nat × Nat)} {i nx a b : Nat} {v : Value} {sw : List (Int32 × Nat)} {pc len : Nat} {L L' : jL} {S S' : List Value} {h h' : jH} {pc' : Nat} (C0 : jC p s args m meth c cc nL own isI D cA B EX adV Ln xs nc0) (hp : jnth pcs i = some (pc, len))
    {H : Heap} {locs : List Loc} {ls : Array Slot} {cells slots : Nat} (hP : va_P D jcls (jws cA B EX h.1) H) (hS : va_S (fun q => B ≤ q) s.heap H locs) (hL : jLok B EX nL L ls) (hc : cells + nc0 = h.2.1) (hs : slots + ns0 = h.2.2.1) (hz : h.2.2.2 = (Ln, xs))
    (hR : h'.2.1 ≤ nc0 + R.cells ∧ h'.2.2.1 ≤ ns0 + R.slots)
    (kk : ∀ (H' : Heap) (locs' : List Loc) (ls' : Array Slot) (cells' slots' : Nat), va_P D jcls (jws cA B EX h'.1) H' → va_S (fun q => B ≤ q) s.heap H' locs' → jLok B EX nL L' ls' → cells' + nc0 = h'.2.1 → slots' + ns0 = h'.2.2.1 → h'.2.2.2 = (Ln, xs) → W p l en R s m args below meth c H' locs' cells' slots' Q (F0 m (jpc pcs pc') ls' (S'.map (jcv B EX)))) (hd : decode cc pc = .ok (.ldiv, len)) (hn : jnxok pcs pc len nx 1 = true) (hst : jstep (.ldiv, nx, a, b, v, sw) L S h = some (pc', L', S', h')) : W p l en R s m args below meth c H locs cells slots Q (F0 m (jpc pcs i) ls (S.map (jcv B EX))) := by
  obtain ⟨hx, hb, hml, hown, hin, hts, hK, hBs, hsz, hF, hlk⟩ := C0
  have hpc : jpc pcs i = pc := by simp [jpc, hp]
  rw [hpc]
  unfold jstep at hst
  dsimp only at hst
  obtain ⟨rfl, e1⟩ := jnx_spec hn
  split at hst
  · rename_i y x S1
    split at hst
    · cases hst
    · rename_i hg
      obtain ⟨rfl, rfl, rfl, rfl⟩ := jsome4 hst
      show W p l en R s m args below meth c H locs cells slots Q (F0 m pc ls (.long y :: .long x :: S1.map (jcv B EX)))
      refine lv_ldiv hx hb hd hg ?_
      rw [← e1]
      exact kk _ _ _ _ _ hP hS hL hc hs hz
  · cases hst

set_option maxRecDepth 4000 in
theorem jS_lrem  {pcs : List (Nat × Nat)} {i nx a b : Nat} {v : Value} {sw : List (Int32 × Nat)} {pc len : Nat} {L L' : jL} {S S' : List Value} {h h' : jH} {pc' : Nat} (C0 : jC p s args m meth c cc nL own isI D cA B EX adV Ln xs nc0) (hp : jnth pcs i = some (pc, len))
    {H : Heap} {locs : List Loc} {ls : Array Slot} {cells slots : Nat} (hP : va_P D jcls (jws cA B EX h.1) H) (hS : va_S (fun q => B ≤ q) s.heap H locs) (hL : jLok B EX nL L ls) (hc : cells + nc0 = h.2.1) (hs : slots + ns0 = h.2.2.1) (hz : h.2.2.2 = (Ln, xs))
    (hR : h'.2.1 ≤ nc0 + R.cells ∧ h'.2.2.1 ≤ ns0 + R.slots)
    (kk : ∀ (H' : Heap) (locs' : List Loc) (ls' : Array Slot) (cells' slots' : Nat), va_P D jcls (jws cA B EX h'.1) H' → va_S (fun q => B ≤ q) s.heap H' locs' → jLok B EX nL L' ls' → cells' + nc0 = h'.2.1 → slots' + ns0 = h'.2.2.1 → h'.2.2.2 = (Ln, xs) → W p l en R s m args below meth c H' locs' cells' slots' Q (F0 m (jpc pcs pc') ls' (S'.map (jcv B EX)))) (hd : decode cc pc = .ok (.lrem, len)) (hn : jnxok pcs pc len nx 1 = true) (hst : jstep (.lrem, nx, a, b, v, sw) L S h = some (pc', L', S', h')) : W p l en R s m args below meth c H locs cells slots Q (F0 m (jpc pcs i) ls (S.map (jcv B EX))) := by
  obtain ⟨hx, hb, hml, hown, hin, hts, hK, hBs, hsz, hF, hlk⟩ := C0
  have hpc : jpc pcs i = pc := by simp [jpc, hp]
  rw [hpc]
  unfold jstep at hst
  dsimp only at hst
  obtain ⟨rfl, e1⟩ := jnx_spec hn
  split at hst
  · rename_i y x S1
    split at hst
    · cases hst
    · rename_i hg
      obtain ⟨rfl, rfl, rfl, rfl⟩ := jsome4 hst
      show W p l en R s m args below meth c H locs cells slots Q (F0 m pc ls (.long y :: .long x :: S1.map (jcv B EX)))
      refine lv_lrem hx hb hd hg ?_
      rw [← e1]
      exact kk _ _ _ _ _ hP hS hL hc hs hz
  · cases hst

set_option maxRecDepth 4000 in
theorem jS_lneg  {pcs : List (Nat × Nat)} {i nx a b : Nat} {v : Value} {sw : List (Int32 × Nat)} {pc len : Nat} {L L' : jL} {S S' : List Value} {h h' : jH} {pc' : Nat} (C0 : jC p s args m meth c cc nL own isI D cA B EX adV Ln xs nc0) (hp : jnth pcs i = some (pc, len))
    {H : Heap} {locs : List Loc} {ls : Array Slot} {cells slots : Nat} (hP : va_P D jcls (jws cA B EX h.1) H) (hS : va_S (fun q => B ≤ q) s.heap H locs) (hL : jLok B EX nL L ls) (hc : cells + nc0 = h.2.1) (hs : slots + ns0 = h.2.2.1) (hz : h.2.2.2 = (Ln, xs))
    (hR : h'.2.1 ≤ nc0 + R.cells ∧ h'.2.2.1 ≤ ns0 + R.slots)
    (kk : ∀ (H' : Heap) (locs' : List Loc) (ls' : Array Slot) (cells' slots' : Nat), va_P D jcls (jws cA B EX h'.1) H' → va_S (fun q => B ≤ q) s.heap H' locs' → jLok B EX nL L' ls' → cells' + nc0 = h'.2.1 → slots' + ns0 = h'.2.2.1 → h'.2.2.2 = (Ln, xs) → W p l en R s m args below meth c H' locs' cells' slots' Q (F0 m (jpc pcs pc') ls' (S'.map (jcv B EX)))) (hd : decode cc pc = .ok (.lneg, len)) (hn : jnxok pcs pc len nx 1 = true) (hst : jstep (.lneg, nx, a, b, v, sw) L S h = some (pc', L', S', h')) : W p l en R s m args below meth c H locs cells slots Q (F0 m (jpc pcs i) ls (S.map (jcv B EX))) := by
  obtain ⟨hx, hb, hml, hown, hin, hts, hK, hBs, hsz, hF, hlk⟩ := C0
  have hpc : jpc pcs i = pc := by simp [jpc, hp]
  rw [hpc]
  unfold jstep at hst
  dsimp only at hst
  obtain ⟨rfl, e1⟩ := jnx_spec hn
  split at hst
  · rename_i x S1
    obtain ⟨rfl, rfl, rfl, rfl⟩ := jsome4 hst
    show W p l en R s m args below meth c H locs cells slots Q (F0 m pc ls (.long x :: S1.map (jcv B EX)))
    refine lv_lneg hx hb hd ?_
    rw [← e1]
    exact kk _ _ _ _ _ hP hS hL hc hs hz
  · cases hst

set_option maxRecDepth 4000 in
theorem jS_lcmp  {pcs : List (Nat × Nat)} {i nx a b : Nat} {v : Value} {sw : List (Int32 × Nat)} {pc len : Nat} {L L' : jL} {S S' : List Value} {h h' : jH} {pc' : Nat} (C0 : jC p s args m meth c cc nL own isI D cA B EX adV Ln xs nc0) (hp : jnth pcs i = some (pc, len))
    {H : Heap} {locs : List Loc} {ls : Array Slot} {cells slots : Nat} (hP : va_P D jcls (jws cA B EX h.1) H) (hS : va_S (fun q => B ≤ q) s.heap H locs) (hL : jLok B EX nL L ls) (hc : cells + nc0 = h.2.1) (hs : slots + ns0 = h.2.2.1) (hz : h.2.2.2 = (Ln, xs))
    (hR : h'.2.1 ≤ nc0 + R.cells ∧ h'.2.2.1 ≤ ns0 + R.slots)
    (kk : ∀ (H' : Heap) (locs' : List Loc) (ls' : Array Slot) (cells' slots' : Nat), va_P D jcls (jws cA B EX h'.1) H' → va_S (fun q => B ≤ q) s.heap H' locs' → jLok B EX nL L' ls' → cells' + nc0 = h'.2.1 → slots' + ns0 = h'.2.2.1 → h'.2.2.2 = (Ln, xs) → W p l en R s m args below meth c H' locs' cells' slots' Q (F0 m (jpc pcs pc') ls' (S'.map (jcv B EX)))) (hd : decode cc pc = .ok (.lcmp, len)) (hn : jnxok pcs pc len nx 1 = true) (hst : jstep (.lcmp, nx, a, b, v, sw) L S h = some (pc', L', S', h')) : W p l en R s m args below meth c H locs cells slots Q (F0 m (jpc pcs i) ls (S.map (jcv B EX))) := by
  obtain ⟨hx, hb, hml, hown, hin, hts, hK, hBs, hsz, hF, hlk⟩ := C0
  have hpc : jpc pcs i = pc := by simp [jpc, hp]
  rw [hpc]
  unfold jstep at hst
  dsimp only at hst
  obtain ⟨rfl, e1⟩ := jnx_spec hn
  split at hst
  · rename_i y x S1
    obtain ⟨rfl, rfl, rfl, rfl⟩ := jsome4 hst
    show W p l en R s m args below meth c H locs cells slots Q (F0 m pc ls (.long y :: .long x :: S1.map (jcv B EX)))
    refine W.lcmp hx hb hd ?_
    rw [← e1]
    exact kk _ _ _ _ _ hP hS hL hc hs hz
  · cases hst

set_option maxRecDepth 4000 in
theorem jS_i2l  {pcs : List (Nat × Nat)} {i nx a b : Nat} {v : Value} {sw : List (Int32 × Nat)} {pc len : Nat} {L L' : jL} {S S' : List Value} {h h' : jH} {pc' : Nat} (C0 : jC p s args m meth c cc nL own isI D cA B EX adV Ln xs nc0) (hp : jnth pcs i = some (pc, len))
    {H : Heap} {locs : List Loc} {ls : Array Slot} {cells slots : Nat} (hP : va_P D jcls (jws cA B EX h.1) H) (hS : va_S (fun q => B ≤ q) s.heap H locs) (hL : jLok B EX nL L ls) (hc : cells + nc0 = h.2.1) (hs : slots + ns0 = h.2.2.1) (hz : h.2.2.2 = (Ln, xs))
    (hR : h'.2.1 ≤ nc0 + R.cells ∧ h'.2.2.1 ≤ ns0 + R.slots)
    (kk : ∀ (H' : Heap) (locs' : List Loc) (ls' : Array Slot) (cells' slots' : Nat), va_P D jcls (jws cA B EX h'.1) H' → va_S (fun q => B ≤ q) s.heap H' locs' → jLok B EX nL L' ls' → cells' + nc0 = h'.2.1 → slots' + ns0 = h'.2.2.1 → h'.2.2.2 = (Ln, xs) → W p l en R s m args below meth c H' locs' cells' slots' Q (F0 m (jpc pcs pc') ls' (S'.map (jcv B EX)))) (hd : decode cc pc = .ok (.i2l, len)) (hn : jnxok pcs pc len nx 1 = true) (hst : jstep (.i2l, nx, a, b, v, sw) L S h = some (pc', L', S', h')) : W p l en R s m args below meth c H locs cells slots Q (F0 m (jpc pcs i) ls (S.map (jcv B EX))) := by
  obtain ⟨hx, hb, hml, hown, hin, hts, hK, hBs, hsz, hF, hlk⟩ := C0
  have hpc : jpc pcs i = pc := by simp [jpc, hp]
  rw [hpc]
  unfold jstep at hst
  dsimp only at hst
  obtain ⟨rfl, e1⟩ := jnx_spec hn
  split at hst
  · rename_i x S1
    obtain ⟨rfl, rfl, rfl, rfl⟩ := jsome4 hst
    show W p l en R s m args below meth c H locs cells slots Q (F0 m pc ls (.int x :: S1.map (jcv B EX)))
    refine lv_i2l hx hb hd rfl ?_
    rw [← e1]
    exact kk _ _ _ _ _ hP hS hL hc hs hz
  · cases hst

set_option maxRecDepth 4000 in
theorem jS_l2i  {pcs : List (Nat × Nat)} {i nx a b : Nat} {v : Value} {sw : List (Int32 × Nat)} {pc len : Nat} {L L' : jL} {S S' : List Value} {h h' : jH} {pc' : Nat} (C0 : jC p s args m meth c cc nL own isI D cA B EX adV Ln xs nc0) (hp : jnth pcs i = some (pc, len))
    {H : Heap} {locs : List Loc} {ls : Array Slot} {cells slots : Nat} (hP : va_P D jcls (jws cA B EX h.1) H) (hS : va_S (fun q => B ≤ q) s.heap H locs) (hL : jLok B EX nL L ls) (hc : cells + nc0 = h.2.1) (hs : slots + ns0 = h.2.2.1) (hz : h.2.2.2 = (Ln, xs))
    (hR : h'.2.1 ≤ nc0 + R.cells ∧ h'.2.2.1 ≤ ns0 + R.slots)
    (kk : ∀ (H' : Heap) (locs' : List Loc) (ls' : Array Slot) (cells' slots' : Nat), va_P D jcls (jws cA B EX h'.1) H' → va_S (fun q => B ≤ q) s.heap H' locs' → jLok B EX nL L' ls' → cells' + nc0 = h'.2.1 → slots' + ns0 = h'.2.2.1 → h'.2.2.2 = (Ln, xs) → W p l en R s m args below meth c H' locs' cells' slots' Q (F0 m (jpc pcs pc') ls' (S'.map (jcv B EX)))) (hd : decode cc pc = .ok (.l2i, len)) (hn : jnxok pcs pc len nx 1 = true) (hst : jstep (.l2i, nx, a, b, v, sw) L S h = some (pc', L', S', h')) : W p l en R s m args below meth c H locs cells slots Q (F0 m (jpc pcs i) ls (S.map (jcv B EX))) := by
  obtain ⟨hx, hb, hml, hown, hin, hts, hK, hBs, hsz, hF, hlk⟩ := C0
  have hpc : jpc pcs i = pc := by simp [jpc, hp]
  rw [hpc]
  unfold jstep at hst
  dsimp only at hst
  obtain ⟨rfl, e1⟩ := jnx_spec hn
  split at hst
  · rename_i x S1
    obtain ⟨rfl, rfl, rfl, rfl⟩ := jsome4 hst
    show W p l en R s m args below meth c H locs cells slots Q (F0 m pc ls (.long x :: S1.map (jcv B EX)))
    refine lv_l2i hx hb hd rfl ?_
    rw [← e1]
    exact kk _ _ _ _ _ hP hS hL hc hs hz
  · cases hst

set_option maxRecDepth 4000 in
theorem jS_iconst {k : Int} {pcs : List (Nat × Nat)} {i nx a b : Nat} {v : Value} {sw : List (Int32 × Nat)} {pc len : Nat} {L L' : jL} {S S' : List Value} {h h' : jH} {pc' : Nat} (C0 : jC p s args m meth c cc nL own isI D cA B EX adV Ln xs nc0) (hp : jnth pcs i = some (pc, len))
    {H : Heap} {locs : List Loc} {ls : Array Slot} {cells slots : Nat} (hP : va_P D jcls (jws cA B EX h.1) H) (hS : va_S (fun q => B ≤ q) s.heap H locs) (hL : jLok B EX nL L ls) (hc : cells + nc0 = h.2.1) (hs : slots + ns0 = h.2.2.1) (hz : h.2.2.2 = (Ln, xs))
    (hR : h'.2.1 ≤ nc0 + R.cells ∧ h'.2.2.1 ≤ ns0 + R.slots)
    (kk : ∀ (H' : Heap) (locs' : List Loc) (ls' : Array Slot) (cells' slots' : Nat), va_P D jcls (jws cA B EX h'.1) H' → va_S (fun q => B ≤ q) s.heap H' locs' → jLok B EX nL L' ls' → cells' + nc0 = h'.2.1 → slots' + ns0 = h'.2.2.1 → h'.2.2.2 = (Ln, xs) → W p l en R s m args below meth c H' locs' cells' slots' Q (F0 m (jpc pcs pc') ls' (S'.map (jcv B EX)))) (hd : decode cc pc = .ok (.iconst k, len)) (hv : v = .int (Int32.ofInt k)) (hn : jnxok pcs pc len nx 1 = true) (hst : jstep (.iconst k, nx, a, b, v, sw) L S h = some (pc', L', S', h')) : W p l en R s m args below meth c H locs cells slots Q (F0 m (jpc pcs i) ls (S.map (jcv B EX))) := by
  obtain ⟨hx, hb, hml, hown, hin, hts, hK, hBs, hsz, hF, hlk⟩ := C0
  have hpc : jpc pcs i = pc := by simp [jpc, hp]
  rw [hpc]
  unfold jstep at hst
  dsimp only at hst
  obtain ⟨rfl, e1⟩ := jnx_spec hn
  obtain ⟨rfl, rfl, rfl, rfl⟩ := jsome4 hst
  subst hv
  show W p l en R s m args below meth c H locs cells slots Q (F0 m pc ls (S.map (jcv B EX)))
  refine lv_iconst hx hb hd rfl ?_
  rw [← e1]
  exact kk _ _ _ _ _ hP hS hL hc hs hz

set_option maxRecDepth 4000 in
theorem jS_bipush {k : Int} {pcs : List (Nat × Nat)} {i nx a b : Nat} {v : Value} {sw : List (Int32 × Nat)} {pc len : Nat} {L L' : jL} {S S' : List Value} {h h' : jH} {pc' : Nat} (C0 : jC p s args m meth c cc nL own isI D cA B EX adV Ln xs nc0) (hp : jnth pcs i = some (pc, len))
    {H : Heap} {locs : List Loc} {ls : Array Slot} {cells slots : Nat} (hP : va_P D jcls (jws cA B EX h.1) H) (hS : va_S (fun q => B ≤ q) s.heap H locs) (hL : jLok B EX nL L ls) (hc : cells + nc0 = h.2.1) (hs : slots + ns0 = h.2.2.1) (hz : h.2.2.2 = (Ln, xs))
    (hR : h'.2.1 ≤ nc0 + R.cells ∧ h'.2.2.1 ≤ ns0 + R.slots)
    (kk : ∀ (H' : Heap) (locs' : List Loc) (ls' : Array Slot) (cells' slots' : Nat), va_P D jcls (jws cA B EX h'.1) H' → va_S (fun q => B ≤ q) s.heap H' locs' → jLok B EX nL L' ls' → cells' + nc0 = h'.2.1 → slots' + ns0 = h'.2.2.1 → h'.2.2.2 = (Ln, xs) → W p l en R s m args below meth c H' locs' cells' slots' Q (F0 m (jpc pcs pc') ls' (S'.map (jcv B EX)))) (hd : decode cc pc = .ok (.bipush k, len)) (hv : v = .int (Int8.ofInt k).toInt32) (hn : jnxok pcs pc len nx 2 = true) (hst : jstep (.bipush k, nx, a, b, v, sw) L S h = some (pc', L', S', h')) : W p l en R s m args below meth c H locs cells slots Q (F0 m (jpc pcs i) ls (S.map (jcv B EX))) := by
  obtain ⟨hx, hb, hml, hown, hin, hts, hK, hBs, hsz, hF, hlk⟩ := C0
  have hpc : jpc pcs i = pc := by simp [jpc, hp]
  rw [hpc]
  unfold jstep at hst
  dsimp only at hst
  obtain ⟨rfl, e1⟩ := jnx_spec hn
  obtain ⟨rfl, rfl, rfl, rfl⟩ := jsome4 hst
  subst hv
  show W p l en R s m args below meth c H locs cells slots Q (F0 m pc ls (S.map (jcv B EX)))
  refine lv_bipush hx hb hd rfl ?_
  rw [← e1]
  exact kk _ _ _ _ _ hP hS hL hc hs hz

set_option maxRecDepth 4000 in
theorem jS_sipush {k : Int} {pcs : List (Nat × Nat)} {i nx a b : Nat} {v : Value} {sw : List (Int32 × Nat)} {pc len : Nat} {L L' : jL} {S S' : List Value} {h h' : jH} {pc' : Nat} (C0 : jC p s args m meth c cc nL own isI D cA B EX adV Ln xs nc0) (hp : jnth pcs i = some (pc, len))
    {H : Heap} {locs : List Loc} {ls : Array Slot} {cells slots : Nat} (hP : va_P D jcls (jws cA B EX h.1) H) (hS : va_S (fun q => B ≤ q) s.heap H locs) (hL : jLok B EX nL L ls) (hc : cells + nc0 = h.2.1) (hs : slots + ns0 = h.2.2.1) (hz : h.2.2.2 = (Ln, xs))
    (hR : h'.2.1 ≤ nc0 + R.cells ∧ h'.2.2.1 ≤ ns0 + R.slots)
    (kk : ∀ (H' : Heap) (locs' : List Loc) (ls' : Array Slot) (cells' slots' : Nat), va_P D jcls (jws cA B EX h'.1) H' → va_S (fun q => B ≤ q) s.heap H' locs' → jLok B EX nL L' ls' → cells' + nc0 = h'.2.1 → slots' + ns0 = h'.2.2.1 → h'.2.2.2 = (Ln, xs) → W p l en R s m args below meth c H' locs' cells' slots' Q (F0 m (jpc pcs pc') ls' (S'.map (jcv B EX)))) (hd : decode cc pc = .ok (.sipush k, len)) (hv : v = .int (Int16.ofInt k).toInt32) (hn : jnxok pcs pc len nx 3 = true) (hst : jstep (.sipush k, nx, a, b, v, sw) L S h = some (pc', L', S', h')) : W p l en R s m args below meth c H locs cells slots Q (F0 m (jpc pcs i) ls (S.map (jcv B EX))) := by
  obtain ⟨hx, hb, hml, hown, hin, hts, hK, hBs, hsz, hF, hlk⟩ := C0
  have hpc : jpc pcs i = pc := by simp [jpc, hp]
  rw [hpc]
  unfold jstep at hst
  dsimp only at hst
  obtain ⟨rfl, e1⟩ := jnx_spec hn
  obtain ⟨rfl, rfl, rfl, rfl⟩ := jsome4 hst
  subst hv
  show W p l en R s m args below meth c H locs cells slots Q (F0 m pc ls (S.map (jcv B EX)))
  refine lv_sipush hx hb hd rfl ?_
  rw [← e1]
  exact kk _ _ _ _ _ hP hS hL hc hs hz

set_option maxRecDepth 4000 in
theorem jS_lconst {k : Fin 2} {pcs : List (Nat × Nat)} {i nx a b : Nat} {v : Value} {sw : List (Int32 × Nat)} {pc len : Nat} {L L' : jL} {S S' : List Value} {h h' : jH} {pc' : Nat} (C0 : jC p s args m meth c cc nL own isI D cA B EX adV Ln xs nc0) (hp : jnth pcs i = some (pc, len))
    {H : Heap} {locs : List Loc} {ls : Array Slot} {cells slots : Nat} (hP : va_P D jcls (jws cA B EX h.1) H) (hS : va_S (fun q => B ≤ q) s.heap H locs) (hL : jLok B EX nL L ls) (hc : cells + nc0 = h.2.1) (hs : slots + ns0 = h.2.2.1) (hz : h.2.2.2 = (Ln, xs))
    (hR : h'.2.1 ≤ nc0 + R.cells ∧ h'.2.2.1 ≤ ns0 + R.slots)
    (kk : ∀ (H' : Heap) (locs' : List Loc) (ls' : Array Slot) (cells' slots' : Nat), va_P D jcls (jws cA B EX h'.1) H' → va_S (fun q => B ≤ q) s.heap H' locs' → jLok B EX nL L' ls' → cells' + nc0 = h'.2.1 → slots' + ns0 = h'.2.2.1 → h'.2.2.2 = (Ln, xs) → W p l en R s m args below meth c H' locs' cells' slots' Q (F0 m (jpc pcs pc') ls' (S'.map (jcv B EX)))) (hd : decode cc pc = .ok (.lconst k, len)) (hv : v = .long (Int64.ofNat k.val)) (hn : jnxok pcs pc len nx 1 = true) (hst : jstep (.lconst k, nx, a, b, v, sw) L S h = some (pc', L', S', h')) : W p l en R s m args below meth c H locs cells slots Q (F0 m (jpc pcs i) ls (S.map (jcv B EX))) := by
  obtain ⟨hx, hb, hml, hown, hin, hts, hK, hBs, hsz, hF, hlk⟩ := C0
  have hpc : jpc pcs i = pc := by simp [jpc, hp]
  rw [hpc]
  unfold jstep at hst
  dsimp only at hst
  obtain ⟨rfl, e1⟩ := jnx_spec hn
  obtain ⟨rfl, rfl, rfl, rfl⟩ := jsome4 hst
  subst hv
  show W p l en R s m args below meth c H locs cells slots Q (F0 m pc ls (S.map (jcv B EX)))
  refine lv_lconst hx hb hd rfl ?_
  rw [← e1]
  exact kk _ _ _ _ _ hP hS hL hc hs hz

set_option maxRecDepth 4000 in
theorem jS_ldci {k : Nat} {w : Int32} {pcs : List (Nat × Nat)} {i nx a b : Nat} {v : Value} {sw : List (Int32 × Nat)} {pc len : Nat} {L L' : jL} {S S' : List Value} {h h' : jH} {pc' : Nat} (C0 : jC p s args m meth c cc nL own isI D cA B EX adV Ln xs nc0) (hp : jnth pcs i = some (pc, len))
    {H : Heap} {locs : List Loc} {ls : Array Slot} {cells slots : Nat} (hP : va_P D jcls (jws cA B EX h.1) H) (hS : va_S (fun q => B ≤ q) s.heap H locs) (hL : jLok B EX nL L ls) (hc : cells + nc0 = h.2.1) (hs : slots + ns0 = h.2.2.1) (hz : h.2.2.2 = (Ln, xs))
    (hR : h'.2.1 ≤ nc0 + R.cells ∧ h'.2.2.1 ≤ ns0 + R.slots)
    (kk : ∀ (H' : Heap) (locs' : List Loc) (ls' : Array Slot) (cells' slots' : Nat), va_P D jcls (jws cA B EX h'.1) H' → va_S (fun q => B ≤ q) s.heap H' locs' → jLok B EX nL L' ls' → cells' + nc0 = h'.2.1 → slots' + ns0 = h'.2.2.1 → h'.2.2.2 = (Ln, xs) → W p l en R s m args below meth c H' locs' cells' slots' Q (F0 m (jpc pcs pc') ls' (S'.map (jcv B EX)))) (hd : decode cc pc = .ok (.ldc k, len)) (hv : v = .int w) (hm : (own, k, w) ∈ jlk) (hn : jnxok pcs pc len nx 2 = true) (hst : jstep (.ldc k, nx, a, b, v, sw) L S h = some (pc', L', S', h')) : W p l en R s m args below meth c H locs cells slots Q (F0 m (jpc pcs i) ls (S.map (jcv B EX))) := by
  obtain ⟨hx, hb, hml, hown, hin, hts, hK, hBs, hsz, hF, hlk⟩ := C0
  have hpc : jpc pcs i = pc := by simp [jpc, hp]
  rw [hpc]
  unfold jstep at hst
  dsimp only at hst
  obtain ⟨rfl, e1⟩ := jnx_spec hn
  obtain ⟨rfl, rfl, rfl, rfl⟩ := jsome4 hst
  subst hv
  show W p l en R s m args below meth c H locs cells slots Q (F0 m pc ls (S.map (jcv B EX)))
  refine lv_ldc hx hb hown (hts _ (jGm (jlk_ok _ hm) rfl)) hd ?_
  rw [← e1]
  exact kk _ _ _ _ _ hP hS hL hc hs hz

set_option maxRecDepth 4000 in
theorem jS_ldcs1  {pcs : List (Nat × Nat)} {i nx a b : Nat} {v : Value} {sw : List (Int32 × Nat)} {pc len : Nat} {L L' : jL} {S S' : List Value} {h h' : jH} {pc' : Nat} (C0 : jC p s args m meth c cc nL own isI D cA B EX adV Ln xs nc0) (hp : jnth pcs i = some (pc, len))
    {H : Heap} {locs : List Loc} {ls : Array Slot} {cells slots : Nat} (hP : va_P D jcls (jws cA B EX h.1) H) (hS : va_S (fun q => B ≤ q) s.heap H locs) (hL : jLok B EX nL L ls) (hc : cells + nc0 = h.2.1) (hs : slots + ns0 = h.2.2.1) (hz : h.2.2.2 = (Ln, xs))
    (hR : h'.2.1 ≤ nc0 + R.cells ∧ h'.2.2.1 ≤ ns0 + R.slots)
    (kk : ∀ (H' : Heap) (locs' : List Loc) (ls' : Array Slot) (cells' slots' : Nat), va_P D jcls (jws cA B EX h'.1) H' → va_S (fun q => B ≤ q) s.heap H' locs' → jLok B EX nL L' ls' → cells' + nc0 = h'.2.1 → slots' + ns0 = h'.2.2.1 → h'.2.2.2 = (Ln, xs) → W p l en R s m args below meth c H' locs' cells' slots' Q (F0 m (jpc pcs pc') ls' (S'.map (jcv B EX)))) (hd : decode cc pc = .ok (.ldc 18, len)) (ho : own = 8) (hv : v = .retAddr 1) (hn : jnxok pcs pc len nx 2 = true) (hst : jstep (.ldc 18, nx, a, b, v, sw) L S h = some (pc', L', S', h')) : W p l en R s m args below meth c H locs cells slots Q (F0 m (jpc pcs i) ls (S.map (jcv B EX))) := by
  obtain ⟨hx, hb, hml, hown, hin, hts, hK, hBs, hsz, hF, hlk⟩ := C0
  have hpc : jpc pcs i = pc := by simp [jpc, hp]
  rw [hpc]
  unfold jstep at hst
  dsimp only at hst
  obtain ⟨rfl, e1⟩ := jnx_spec hn
  obtain ⟨rfl, rfl, rfl, rfl⟩ := jsome4 hst
  subst hv
  subst ho
  show W p l en R s m args below meth c H locs cells slots Q (F0 m pc ls (S.map (jcv B EX)))
  refine va_ldcS hx hb hown hF.2.2.2.2.1 hd ?_
  rw [← e1]
  exact kk _ _ _ _ _ hP hS hL hc hs hz

set_option maxRecDepth 4000 in
theorem jS_ldcs2  {pcs : List (Nat × Nat)} {i nx a b : Nat} {v : Value} {sw : List (Int32 × Nat)} {pc len : Nat} {L L' : jL} {S S' : List Value} {h h' : jH} {pc' : Nat} (C0 : jC p s args m meth c cc nL own isI D cA B EX adV Ln xs nc0) (hp : jnth pcs i = some (pc, len))
    {H : Heap} {locs : List Loc} {ls : Array Slot} {cells slots : Nat} (hP : va_P D jcls (jws cA B EX h.1) H) (hS : va_S (fun q => B ≤ q) s.heap H locs) (hL : jLok B EX nL L ls) (hc : cells + nc0 = h.2.1) (hs : slots + ns0 = h.2.2.1) (hz : h.2.2.2 = (Ln, xs))
    (hR : h'.2.1 ≤ nc0 + R.cells ∧ h'.2.2.1 ≤ ns0 + R.slots)
    (kk : ∀ (H' : Heap) (locs' : List Loc) (ls' : Array Slot) (cells' slots' : Nat), va_P D jcls (jws cA B EX h'.1) H' → va_S (fun q => B ≤ q) s.heap H' locs' → jLok B EX nL L' ls' → cells' + nc0 = h'.2.1 → slots' + ns0 = h'.2.2.1 → h'.2.2.2 = (Ln, xs) → W p l en R s m args below meth c H' locs' cells' slots' Q (F0 m (jpc pcs pc') ls' (S'.map (jcv B EX)))) (hd : decode cc pc = .ok (.ldc 188, len)) (ho : own = 11) (hv : v = .retAddr 2) (hn : jnxok pcs pc len nx 2 = true) (hst : jstep (.ldc 188, nx, a, b, v, sw) L S h = some (pc', L', S', h')) : W p l en R s m args below meth c H locs cells slots Q (F0 m (jpc pcs i) ls (S.map (jcv B EX))) := by
  obtain ⟨hx, hb, hml, hown, hin, hts, hK, hBs, hsz, hF, hlk⟩ := C0
  have hpc : jpc pcs i = pc := by simp [jpc, hp]
  rw [hpc]
  unfold jstep at hst
  dsimp only at hst
  obtain ⟨rfl, e1⟩ := jnx_spec hn
  obtain ⟨rfl, rfl, rfl, rfl⟩ := jsome4 hst
  subst hv
  subst ho
  show W p l en R s m args below meth c H locs cells slots Q (F0 m pc ls (S.map (jcv B EX)))
  refine va_ldcS hx hb hown hF.2.2.2.2.2.1 hd ?_
  rw [← e1]
  exact kk _ _ _ _ _ hP hS hL hc hs hz

set_option maxRecDepth 4000 in
theorem jS_ldcw {k : Nat} {w : Int32} {pcs : List (Nat × Nat)} {i nx a b : Nat} {v : Value} {sw : List (Int32 × Nat)} {pc len : Nat} {L L' : jL} {S S' : List Value} {h h' : jH} {pc' : Nat} (C0 : jC p s args m meth c cc nL own isI D cA B EX adV Ln xs nc0) (hp : jnth pcs i = some (pc, len))
    {H : Heap} {locs : List Loc} {ls : Array Slot} {cells slots : Nat} (hP : va_P D jcls (jws cA B EX h.1) H) (hS : va_S (fun q => B ≤ q) s.heap H locs) (hL : jLok B EX nL L ls) (hc : cells + nc0 = h.2.1) (hs : slots + ns0 = h.2.2.1) (hz : h.2.2.2 = (Ln, xs))
    (hR : h'.2.1 ≤ nc0 + R.cells ∧ h'.2.2.1 ≤ ns0 + R.slots)
    (kk : ∀ (H' : Heap) (locs' : List Loc) (ls' : Array Slot) (cells' slots' : Nat), va_P D jcls (jws cA B EX h'.1) H' → va_S (fun q => B ≤ q) s.heap H' locs' → jLok B EX nL L' ls' → cells' + nc0 = h'.2.1 → slots' + ns0 = h'.2.2.1 → h'.2.2.2 = (Ln, xs) → W p l en R s m args below meth c H' locs' cells' slots' Q (F0 m (jpc pcs pc') ls' (S'.map (jcv B EX)))) (hd : decode cc pc = .ok (.ldc_w k, len)) (hv : v = .int w) (hm : (own, k, w) ∈ jlk) (hn : jnxok pcs pc len nx 3 = true) (hst : jstep (.ldc_w k, nx, a, b, v, sw) L S h = some (pc', L', S', h')) : W p l en R s m args below meth c H locs cells slots Q (F0 m (jpc pcs i) ls (S.map (jcv B EX))) := by
  obtain ⟨hx, hb, hml, hown, hin, hts, hK, hBs, hsz, hF, hlk⟩ := C0
  have hpc : jpc pcs i = pc := by simp [jpc, hp]
  rw [hpc]
  unfold jstep at hst
  dsimp only at hst
  obtain ⟨rfl, e1⟩ := jnx_spec hn
  obtain ⟨rfl, rfl, rfl, rfl⟩ := jsome4 hst
  subst hv
  show W p l en R s m args below meth c H locs cells slots Q (F0 m pc ls (S.map (jcv B EX)))
  refine lv_ldcw hx hb hown (hts _ (jGm (jlk_ok _ hm) rfl)) hd ?_
  rw [← e1]
  exact kk _ _ _ _ _ hP hS hL hc hs hz

set_option maxRecDepth 4000 in
theorem jS_ldc2 {k : Nat} {w : Int64} {pcs : List (Nat × Nat)} {i nx a b : Nat} {v : Value} {sw : List (Int32 × Nat)} {pc len : Nat} {L L' : jL} {S S' : List Value} {h h' : jH} {pc' : Nat} (C0 : jC p s args m meth c cc nL own isI D cA B EX adV Ln xs nc0) (hp : jnth pcs i = some (pc, len))
    {H : Heap} {locs : List Loc} {ls : Array Slot} {cells slots : Nat} (hP : va_P D jcls (jws cA B EX h.1) H) (hS : va_S (fun q => B ≤ q) s.heap H locs) (hL : jLok B EX nL L ls) (hc : cells + nc0 = h.2.1) (hs : slots + ns0 = h.2.2.1) (hz : h.2.2.2 = (Ln, xs))
    (hR : h'.2.1 ≤ nc0 + R.cells ∧ h'.2.2.1 ≤ ns0 + R.slots)
    (kk : ∀ (H' : Heap) (locs' : List Loc) (ls' : Array Slot) (cells' slots' : Nat), va_P D jcls (jws cA B EX h'.1) H' → va_S (fun q => B ≤ q) s.heap H' locs' → jLok B EX nL L' ls' → cells' + nc0 = h'.2.1 → slots' + ns0 = h'.2.2.1 → h'.2.2.2 = (Ln, xs) → W p l en R s m args below meth c H' locs' cells' slots' Q (F0 m (jpc pcs pc') ls' (S'.map (jcv B EX)))) (hd : decode cc pc = .ok (.ldc2_w k, len)) (hv : v = .long w) (hm : (own, k, w) ∈ jll) (hn : jnxok pcs pc len nx 3 = true) (hst : jstep (.ldc2_w k, nx, a, b, v, sw) L S h = some (pc', L', S', h')) : W p l en R s m args below meth c H locs cells slots Q (F0 m (jpc pcs i) ls (S.map (jcv B EX))) := by
  obtain ⟨hx, hb, hml, hown, hin, hts, hK, hBs, hsz, hF, hlk⟩ := C0
  have hpc : jpc pcs i = pc := by simp [jpc, hp]
  rw [hpc]
  unfold jstep at hst
  dsimp only at hst
  obtain ⟨rfl, e1⟩ := jnx_spec hn
  obtain ⟨rfl, rfl, rfl, rfl⟩ := jsome4 hst
  subst hv
  show W p l en R s m args below meth c H locs cells slots Q (F0 m pc ls (S.map (jcv B EX)))
  refine lv_ldc2 hx hb hown (hts _ (jGm (jll_ok _ hm) rfl)) hd ?_
  rw [← e1]
  exact kk _ _ _ _ _ hP hS hL hc hs hz

set_option maxRecDepth 4000 in
theorem jS_iload {k : Nat} {pcs : List (Nat × Nat)} {i nx a b : Nat} {v : Value} {sw : List (Int32 × Nat)} {pc len : Nat} {L L' : jL} {S S' : List Value} {h h' : jH} {pc' : Nat} (C0 : jC p s args m meth c cc nL own isI D cA B EX adV Ln xs nc0) (hp : jnth pcs i = some (pc, len))
    {H : Heap} {locs : List Loc} {ls : Array Slot} {cells slots : Nat} (hP : va_P D jcls (jws cA B EX h.1) H) (hS : va_S (fun q => B ≤ q) s.heap H locs) (hL : jLok B EX nL L ls) (hc : cells + nc0 = h.2.1) (hs : slots + ns0 = h.2.2.1) (hz : h.2.2.2 = (Ln, xs))
    (hR : h'.2.1 ≤ nc0 + R.cells ∧ h'.2.2.1 ≤ ns0 + R.slots)
    (kk : ∀ (H' : Heap) (locs' : List Loc) (ls' : Array Slot) (cells' slots' : Nat), va_P D jcls (jws cA B EX h'.1) H' → va_S (fun q => B ≤ q) s.heap H' locs' → jLok B EX nL L' ls' → cells' + nc0 = h'.2.1 → slots' + ns0 = h'.2.2.1 → h'.2.2.2 = (Ln, xs) → W p l en R s m args below meth c H' locs' cells' slots' Q (F0 m (jpc pcs pc') ls' (S'.map (jcv B EX)))) (hd : decode cc pc = .ok (.iload k, len)) (hk : k = a) (hn : jnxok pcs pc len nx 2 = true) (hst : jstep (.iload k, nx, a, b, v, sw) L S h = some (pc', L', S', h')) : W p l en R s m args below meth c H locs cells slots Q (F0 m (jpc pcs i) ls (S.map (jcv B EX))) := by
  obtain ⟨hx, hb, hml, hown, hin, hts, hK, hBs, hsz, hF, hlk⟩ := C0
  have hpc : jpc pcs i = pc := by simp [jpc, hp]
  rw [hpc]
  unfold jstep at hst
  dsimp only at hst
  subst hk
  obtain ⟨rfl, e1⟩ := jnx_spec hn
  split at hst
  · rename_i x hq
    obtain ⟨rfl, rfl, rfl, rfl⟩ := jsome4 hst
    show W p l en R s m args below meth c H locs cells slots Q (F0 m pc ls (S.map (jcv B EX)))
    refine lv_iload hx hb hd (hL.at1 hq) ?_
    rw [← e1]
    exact kk _ _ _ _ _ hP hS hL hc hs hz
  · cases hst

set_option maxRecDepth 4000 in
theorem jS_iload_n {k : Fin 4} {pcs : List (Nat × Nat)} {i nx a b : Nat} {v : Value} {sw : List (Int32 × Nat)} {pc len : Nat} {L L' : jL} {S S' : List Value} {h h' : jH} {pc' : Nat} (C0 : jC p s args m meth c cc nL own isI D cA B EX adV Ln xs nc0) (hp : jnth pcs i = some (pc, len))
    {H : Heap} {locs : List Loc} {ls : Array Slot} {cells slots : Nat} (hP : va_P D jcls (jws cA B EX h.1) H) (hS : va_S (fun q => B ≤ q) s.heap H locs) (hL : jLok B EX nL L ls) (hc : cells + nc0 = h.2.1) (hs : slots + ns0 = h.2.2.1) (hz : h.2.2.2 = (Ln, xs))
    (hR : h'.2.1 ≤ nc0 + R.cells ∧ h'.2.2.1 ≤ ns0 + R.slots)
    (kk : ∀ (H' : Heap) (locs' : List Loc) (ls' : Array Slot) (cells' slots' : Nat), va_P D jcls (jws cA B EX h'.1) H' → va_S (fun q => B ≤ q) s.heap H' locs' → jLok B EX nL L' ls' → cells' + nc0 = h'.2.1 → slots' + ns0 = h'.2.2.1 → h'.2.2.2 = (Ln, xs) → W p l en R s m args below meth c H' locs' cells' slots' Q (F0 m (jpc pcs pc') ls' (S'.map (jcv B EX)))) (hd : decode cc pc = .ok (.iload_n k, len)) (hk : k.val = a) (hn : jnxok pcs pc len nx 1 = true) (hst : jstep (.iload_n k, nx, a, b, v, sw) L S h = some (pc', L', S', h')) : W p l en R s m args below meth c H locs cells slots Q (F0 m (jpc pcs i) ls (S.map (jcv B EX))) := by
  obtain ⟨hx, hb, hml, hown, hin, hts, hK, hBs, hsz, hF, hlk⟩ := C0
  have hpc : jpc pcs i = pc := by simp [jpc, hp]
  rw [hpc]
  unfold jstep at hst
  dsimp only at hst
  subst hk
  obtain ⟨rfl, e1⟩ := jnx_spec hn
  split at hst
  · rename_i x hq
    obtain ⟨rfl, rfl, rfl, rfl⟩ := jsome4 hst
    show W p l en R s m args below meth c H locs cells slots Q (F0 m pc ls (S.map (jcv B EX)))
    refine lv_iload_n hx hb hd rfl (hL.at1 hq) ?_
    rw [← e1]
    exact kk _ _ _ _ _ hP hS hL hc hs hz
  · cases hst

set_option maxRecDepth 4000 in
theorem jS_lload {k : Nat} {pcs : List (Nat × Nat)} {i nx a b : Nat} {v : Value} {sw : List (Int32 × Nat)} {pc len : Nat} {L L' : jL} {S S' : List Value} {h h' : jH} {pc' : Nat} (C0 : jC p s args m meth c cc nL own isI D cA B EX adV Ln xs nc0) (hp : jnth pcs i = some (pc, len))
    {H : Heap} {locs : List Loc} {ls : Array Slot} {cells slots : Nat} (hP : va_P D jcls (jws cA B EX h.1) H) (hS : va_S (fun q => B ≤ q) s.heap H locs) (hL : jLok B EX nL L ls) (hc : cells + nc0 = h.2.1) (hs : slots + ns0 = h.2.2.1) (hz : h.2.2.2 = (Ln, xs))
    (hR : h'.2.1 ≤ nc0 + R.cells ∧ h'.2.2.1 ≤ ns0 + R.slots)
    (kk : ∀ (H' : Heap) (locs' : List Loc) (ls' : Array Slot) (cells' slots' : Nat), va_P D jcls (jws cA B EX h'.1) H' → va_S (fun q => B ≤ q) s.heap H' locs' → jLok B EX nL L' ls' → cells' + nc0 = h'.2.1 → slots' + ns0 = h'.2.2.1 → h'.2.2.2 = (Ln, xs) → W p l en R s m args below meth c H' locs' cells' slots' Q (F0 m (jpc pcs pc') ls' (S'.map (jcv B EX)))) (hd : decode cc pc = .ok (.lload k, len)) (hk : k = a) (hn : jnxok pcs pc len nx 2 = true) (hst : jstep (.lload k, nx, a, b, v, sw) L S h = some (pc', L', S', h')) : W p l en R s m args below meth c H locs cells slots Q (F0 m (jpc pcs i) ls (S.map (jcv B EX))) := by
  obtain ⟨hx, hb, hml, hown, hin, hts, hK, hBs, hsz, hF, hlk⟩ := C0
  have hpc : jpc pcs i = pc := by simp [jpc, hp]
  rw [hpc]
  unfold jstep at hst
  dsimp only at hst
  subst hk
  obtain ⟨rfl, e1⟩ := jnx_spec hn
  split at hst
  · rename_i x hq
    obtain ⟨rfl, rfl, rfl, rfl⟩ := jsome4 hst
    show W p l en R s m args below meth c H locs cells slots Q (F0 m pc ls (S.map (jcv B EX)))
    refine lv_lload hx hb hd (hL.at2 hq) ?_
    rw [← e1]
    exact kk _ _ _ _ _ hP hS hL hc hs hz
  · cases hst

set_option maxRecDepth 4000 in
theorem jS_lload_n {k : Fin 4} {pcs : List (Nat × Nat)} {i nx a b : Nat} {v : Value} {sw : List (Int32 × Nat)} {pc len : Nat} {L L' : jL} {S S' : List Value} {h h' : jH} {pc' : Nat} (C0 : jC p s args m meth c cc nL own isI D cA B EX adV Ln xs nc0) (hp : jnth pcs i = some (pc, len))
    {H : Heap} {locs : List Loc} {ls : Array Slot} {cells slots : Nat} (hP : va_P D jcls (jws cA B EX h.1) H) (hS : va_S (fun q => B ≤ q) s.heap H locs) (hL : jLok B EX nL L ls) (hc : cells + nc0 = h.2.1) (hs : slots + ns0 = h.2.2.1) (hz : h.2.2.2 = (Ln, xs))
    (hR : h'.2.1 ≤ nc0 + R.cells ∧ h'.2.2.1 ≤ ns0 + R.slots)
    (kk : ∀ (H' : Heap) (locs' : List Loc) (ls' : Array Slot) (cells' slots' : Nat), va_P D jcls (jws cA B EX h'.1) H' → va_S (fun q => B ≤ q) s.heap H' locs' → jLok B EX nL L' ls' → cells' + nc0 = h'.2.1 → slots' + ns0 = h'.2.2.1 → h'.2.2.2 = (Ln, xs) → W p l en R s m args below meth c H' locs' cells' slots' Q (F0 m (jpc pcs pc') ls' (S'.map (jcv B EX)))) (hd : decode cc pc = .ok (.lload_n k, len)) (hk : k.val = a) (hn : jnxok pcs pc len nx 1 = true) (hst : jstep (.lload_n k, nx, a, b, v, sw) L S h = some (pc', L', S', h')) : W p l en R s m args below meth c H locs cells slots Q (F0 m (jpc pcs i) ls (S.map (jcv B EX))) := by
  obtain ⟨hx, hb, hml, hown, hin, hts, hK, hBs, hsz, hF, hlk⟩ := C0
  have hpc : jpc pcs i = pc := by simp [jpc, hp]
  rw [hpc]
  unfold jstep at hst
  dsimp only at hst
  subst hk
  obtain ⟨rfl, e1⟩ := jnx_spec hn
  split at hst
  · rename_i x hq
    obtain ⟨rfl, rfl, rfl, rfl⟩ := jsome4 hst
    show W p l en R s m args below meth c H locs cells slots Q (F0 m pc ls (S.map (jcv B EX)))
    refine lv_lload_n hx hb hd rfl (hL.at2 hq) ?_
    rw [← e1]
    exact kk _ _ _ _ _ hP hS hL hc hs hz
  · cases hst

set_option maxRecDepth 4000 in
theorem jS_aload {k : Nat} {pcs : List (Nat × Nat)} {i nx a b : Nat} {v : Value} {sw : List (Int32 × Nat)} {pc len : Nat} {L L' : jL} {S S' : List Value} {h h' : jH} {pc' : Nat} (C0 : jC p s args m meth c cc nL own isI D cA B EX adV Ln xs nc0) (hp : jnth pcs i = some (pc, len))
    {H : Heap} {locs : List Loc} {ls : Array Slot} {cells slots : Nat} (hP : va_P D jcls (jws cA B EX h.1) H) (hS : va_S (fun q => B ≤ q) s.heap H locs) (hL : jLok B EX nL L ls) (hc : cells + nc0 = h.2.1) (hs : slots + ns0 = h.2.2.1) (hz : h.2.2.2 = (Ln, xs))
    (hR : h'.2.1 ≤ nc0 + R.cells ∧ h'.2.2.1 ≤ ns0 + R.slots)
    (kk : ∀ (H' : Heap) (locs' : List Loc) (ls' : Array Slot) (cells' slots' : Nat), va_P D jcls (jws cA B EX h'.1) H' → va_S (fun q => B ≤ q) s.heap H' locs' → jLok B EX nL L' ls' → cells' + nc0 = h'.2.1 → slots' + ns0 = h'.2.2.1 → h'.2.2.2 = (Ln, xs) → W p l en R s m args below meth c H' locs' cells' slots' Q (F0 m (jpc pcs pc') ls' (S'.map (jcv B EX)))) (hd : decode cc pc = .ok (.aload k, len)) (hk : k = a) (hn : jnxok pcs pc len nx 2 = true) (hst : jstep (.aload k, nx, a, b, v, sw) L S h = some (pc', L', S', h')) : W p l en R s m args below meth c H locs cells slots Q (F0 m (jpc pcs i) ls (S.map (jcv B EX))) := by
  obtain ⟨hx, hb, hml, hown, hin, hts, hK, hBs, hsz, hF, hlk⟩ := C0
  have hpc : jpc pcs i = pc := by simp [jpc, hp]
  rw [hpc]
  unfold jstep at hst
  dsimp only at hst
  subst hk
  obtain ⟨rfl, e1⟩ := jnx_spec hn
  split at hst
  · rename_i x hq
    obtain ⟨rfl, rfl, rfl, rfl⟩ := jsome4 hst
    show W p l en R s m args below meth c H locs cells slots Q (F0 m pc ls (S.map (jcv B EX)))
    refine lv_aload hx hb hd (hL.at1 hq) ?_
    rw [← e1]
    exact kk _ _ _ _ _ hP hS hL hc hs hz
  · rename_i x hq
    obtain ⟨rfl, rfl, rfl, rfl⟩ := jsome4 hst
    show W p l en R s m args below meth c H locs cells slots Q (F0 m pc ls (S.map (jcv B EX)))
    refine lv_aload hx hb hd (hL.at1 hq) ?_
    rw [← e1]
    exact kk _ _ _ _ _ hP hS hL hc hs hz
  · cases hst

set_option maxRecDepth 4000 in
theorem jS_aload_n {k : Fin 4} {pcs : List (Nat × Nat)} {i nx a b : Nat} {v : Value} {sw : List (Int32 × Nat)} {pc len : Nat} {L L' : jL} {S S' : List Value} {h h' : jH} {pc' : Nat} (C0 : jC p s args m meth c cc nL own isI D cA B EX adV Ln xs nc0) (hp : jnth pcs i = some (pc, len))
    {H : Heap} {locs : List Loc} {ls : Array Slot} {cells slots : Nat} (hP : va_P D jcls (jws cA B EX h.1) H) (hS : va_S (fun q => B ≤ q) s.heap H locs) (hL : jLok B EX nL L ls) (hc : cells + nc0 = h.2.1) (hs : slots + ns0 = h.2.2.1) (hz : h.2.2.2 = (Ln, xs))
    (hR : h'.2.1 ≤ nc0 + R.cells ∧ h'.2.2.1 ≤ ns0 + R.slots)
    (kk : ∀ (H' : Heap) (locs' : List Loc) (ls' : Array Slot) (cells' slots' : Nat), va_P D jcls (jws cA B EX h'.1) H' → va_S (fun q => B ≤ q) s.heap H' locs' → jLok B EX nL L' ls' → cells' + nc0 = h'.2.1 → slots' + ns0 = h'.2.2.1 → h'.2.2.2 = (Ln, xs) → W p l en R s m args below meth c H' locs' cells' slots' Q (F0 m (jpc pcs pc') ls' (S'.map (jcv B EX)))) (hd : decode cc pc = .ok (.aload_n k, len)) (hk : k.val = a) (hn : jnxok pcs pc len nx 1 = true) (hst : jstep (.aload_n k, nx, a, b, v, sw) L S h = some (pc', L', S', h')) : W p l en R s m args below meth c H locs cells slots Q (F0 m (jpc pcs i) ls (S.map (jcv B EX))) := by
  obtain ⟨hx, hb, hml, hown, hin, hts, hK, hBs, hsz, hF, hlk⟩ := C0
  have hpc : jpc pcs i = pc := by simp [jpc, hp]
  rw [hpc]
  unfold jstep at hst
  dsimp only at hst
  subst hk
  obtain ⟨rfl, e1⟩ := jnx_spec hn
  split at hst
  · rename_i x hq
    obtain ⟨rfl, rfl, rfl, rfl⟩ := jsome4 hst
    show W p l en R s m args below meth c H locs cells slots Q (F0 m pc ls (S.map (jcv B EX)))
    refine lv_aload_n hx hb hd rfl (hL.at1 hq) ?_
    rw [← e1]
    exact kk _ _ _ _ _ hP hS hL hc hs hz
  · rename_i x hq
    obtain ⟨rfl, rfl, rfl, rfl⟩ := jsome4 hst
    show W p l en R s m args below meth c H locs cells slots Q (F0 m pc ls (S.map (jcv B EX)))
    refine lv_aload_n hx hb hd rfl (hL.at1 hq) ?_
    rw [← e1]
    exact kk _ _ _ _ _ hP hS hL hc hs hz
  · cases hst

set_option maxRecDepth 4000 in
theorem jS_istore {k : Nat} {pcs : List (Nat × Nat)} {i nx a b : Nat} {v : Value} {sw : List (Int32 × Nat)} {pc len : Nat} {L L' : jL} {S S' : List Value} {h h' : jH} {pc' : Nat} (C0 : jC p s args m meth c cc nL own isI D cA B EX adV Ln xs nc0) (hp : jnth pcs i = some (pc, len))
    {H : Heap} {locs : List Loc} {ls : Array Slot} {cells slots : Nat} (hP : va_P D jcls (jws cA B EX h.1) H) (hS : va_S (fun q => B ≤ q) s.heap H locs) (hL : jLok B EX nL L ls) (hc : cells + nc0 = h.2.1) (hs : slots + ns0 = h.2.2.1) (hz : h.2.2.2 = (Ln, xs))
    (hR : h'.2.1 ≤ nc0 + R.cells ∧ h'.2.2.1 ≤ ns0 + R.slots)
    (kk : ∀ (H' : Heap) (locs' : List Loc) (ls' : Array Slot) (cells' slots' : Nat), va_P D jcls (jws cA B EX h'.1) H' → va_S (fun q => B ≤ q) s.heap H' locs' → jLok B EX nL L' ls' → cells' + nc0 = h'.2.1 → slots' + ns0 = h'.2.2.1 → h'.2.2.2 = (Ln, xs) → W p l en R s m args below meth c H' locs' cells' slots' Q (F0 m (jpc pcs pc') ls' (S'.map (jcv B EX)))) (hd : decode cc pc = .ok (.istore k, len)) (hk : k = a) (hn : jnxok pcs pc len nx 2 = true) (hst : jstep (.istore k, nx, a, b, v, sw) L S h = some (pc', L', S', h')) : W p l en R s m args below meth c H locs cells slots Q (F0 m (jpc pcs i) ls (S.map (jcv B EX))) := by
  obtain ⟨hx, hb, hml, hown, hin, hts, hK, hBs, hsz, hF, hlk⟩ := C0
  have hpc : jpc pcs i = pc := by simp [jpc, hp]
  rw [hpc]
  unfold jstep at hst
  dsimp only at hst
  subst hk
  obtain ⟨rfl, e1⟩ := jnx_spec hn
  split at hst
  · rename_i x S1
    rw [jcond_ite] at hst
    split at hst
    · rename_i hlt
      obtain ⟨rfl, rfl, rfl, rfl⟩ := jsome4 hst
      have hlt2 := Nat.le_of_ble_eq_true hlt
      rw [hL.2.1] at hlt2
      show W p l en R s m args below meth c H locs cells slots Q (F0 m pc ls (.int x :: S1.map (jcv B EX)))
      refine lv_istore hx hb hd hL.1 hlt2 rfl (fun ls' hl' => ?_)
      rw [← e1]
      exact kk _ _ _ _ _ hP hS (hL.st1 rfl hl') hc hs hz
    · cases hst
  · cases hst

set_option maxRecDepth 4000 in
theorem jS_istore_n {k : Fin 4} {pcs : List (Nat × Nat)} {i nx a b : Nat} {v : Value} {sw : List (Int32 × Nat)} {pc len : Nat} {L L' : jL} {S S' : List Value} {h h' : jH} {pc' : Nat} (C0 : jC p s args m meth c cc nL own isI D cA B EX adV Ln xs nc0) (hp : jnth pcs i = some (pc, len))
    {H : Heap} {locs : List Loc} {ls : Array Slot} {cells slots : Nat} (hP : va_P D jcls (jws cA B EX h.1) H) (hS : va_S (fun q => B ≤ q) s.heap H locs) (hL : jLok B EX nL L ls) (hc : cells + nc0 = h.2.1) (hs : slots + ns0 = h.2.2.1) (hz : h.2.2.2 = (Ln, xs))
    (hR : h'.2.1 ≤ nc0 + R.cells ∧ h'.2.2.1 ≤ ns0 + R.slots)
    (kk : ∀ (H' : Heap) (locs' : List Loc) (ls' : Array Slot) (cells' slots' : Nat), va_P D jcls (jws cA B EX h'.1) H' → va_S (fun q => B ≤ q) s.heap H' locs' → jLok B EX nL L' ls' → cells' + nc0 = h'.2.1 → slots' + ns0 = h'.2.2.1 → h'.2.2.2 = (Ln, xs) → W p l en R s m args below meth c H' locs' cells' slots' Q (F0 m (jpc pcs pc') ls' (S'.map (jcv B EX)))) (hd : decode cc pc = .ok (.istore_n k, len)) (hk : k.val = a) (hn : jnxok pcs pc len nx 1 = true) (hst : jstep (.istore_n k, nx, a, b, v, sw) L S h = some (pc', L', S', h')) : W p l en R s m args below meth c H locs cells slots Q (F0 m (jpc pcs i) ls (S.map (jcv B EX))) := by
  obtain ⟨hx, hb, hml, hown, hin, hts, hK, hBs, hsz, hF, hlk⟩ := C0
  have hpc : jpc pcs i = pc := by simp [jpc, hp]
  rw [hpc]
  unfold jstep at hst
  dsimp only at hst
  subst hk
  obtain ⟨rfl, e1⟩ := jnx_spec hn
  split at hst
  · rename_i x S1
    rw [jcond_ite] at hst
    split at hst
    · rename_i hlt
      obtain ⟨rfl, rfl, rfl, rfl⟩ := jsome4 hst
      have hlt2 := Nat.le_of_ble_eq_true hlt
      rw [hL.2.1] at hlt2
      show W p l en R s m args below meth c H locs cells slots Q (F0 m pc ls (.int x :: S1.map (jcv B EX)))
      refine lv_istore_n hx hb hd rfl hL.1 hlt2 rfl (fun ls' hl' => ?_)
      rw [← e1]
      exact kk _ _ _ _ _ hP hS (hL.st1 rfl hl') hc hs hz
    · cases hst
  · cases hst

set_option maxRecDepth 4000 in
theorem jS_astore {k : Nat} {pcs : List (Nat × Nat)} {i nx a b : Nat} {v : Value} {sw : List (Int32 × Nat)} {pc len : Nat} {L L' : jL} {S S' : List Value} {h h' : jH} {pc' : Nat} (C0 : jC p s args m meth c cc nL own isI D cA B EX adV Ln xs nc0) (hp : jnth pcs i = some (pc, len))
    {H : Heap} {locs : List Loc} {ls : Array Slot} {cells slots : Nat} (hP : va_P D jcls (jws cA B EX h.1) H) (hS : va_S (fun q => B ≤ q) s.heap H locs) (hL : jLok B EX nL L ls) (hc : cells + nc0 = h.2.1) (hs : slots + ns0 = h.2.2.1) (hz : h.2.2.2 = (Ln, xs))
    (hR : h'.2.1 ≤ nc0 + R.cells ∧ h'.2.2.1 ≤ ns0 + R.slots)
    (kk : ∀ (H' : Heap) (locs' : List Loc) (ls' : Array Slot) (cells' slots' : Nat), va_P D jcls (jws cA B EX h'.1) H' → va_S (fun q => B ≤ q) s.heap H' locs' → jLok B EX nL L' ls' → cells' + nc0 = h'.2.1 → slots' + ns0 = h'.2.2.1 → h'.2.2.2 = (Ln, xs) → W p l en R s m args below meth c H' locs' cells' slots' Q (F0 m (jpc pcs pc') ls' (S'.map (jcv B EX)))) (hd : decode cc pc = .ok (.astore k, len)) (hk : k = a) (hn : jnxok pcs pc len nx 2 = true) (hst : jstep (.astore k, nx, a, b, v, sw) L S h = some (pc', L', S', h')) : W p l en R s m args below meth c H locs cells slots Q (F0 m (jpc pcs i) ls (S.map (jcv B EX))) := by
  obtain ⟨hx, hb, hml, hown, hin, hts, hK, hBs, hsz, hF, hlk⟩ := C0
  have hpc : jpc pcs i = pc := by simp [jpc, hp]
  rw [hpc]
  unfold jstep at hst
  dsimp only at hst
  subst hk
  obtain ⟨rfl, e1⟩ := jnx_spec hn
  split at hst
  · rename_i x S1
    rw [jcond_ite] at hst
    split at hst
    · rename_i hlt
      obtain ⟨rfl, rfl, rfl, rfl⟩ := jsome4 hst
      have hlt2 := Nat.le_of_ble_eq_true hlt
      rw [hL.2.1] at hlt2
      show W p l en R s m args below meth c H locs cells slots Q (F0 m pc ls (.ref (B + x) :: S1.map (jcv B EX)))
      refine lv_astore hx hb hd hL.1 hlt2 rfl (fun ls' hl' => ?_)
      rw [← e1]
      exact kk _ _ _ _ _ hP hS (hL.st1 rfl hl') hc hs hz
    · cases hst
  · cases hst

set_option maxRecDepth 4000 in
theorem jS_astore_n {k : Fin 4} {pcs : List (Nat × Nat)} {i nx a b : Nat} {v : Value} {sw : List (Int32 × Nat)} {pc len : Nat} {L L' : jL} {S S' : List Value} {h h' : jH} {pc' : Nat} (C0 : jC p s args m meth c cc nL own isI D cA B EX adV Ln xs nc0) (hp : jnth pcs i = some (pc, len))
    {H : Heap} {locs : List Loc} {ls : Array Slot} {cells slots : Nat} (hP : va_P D jcls (jws cA B EX h.1) H) (hS : va_S (fun q => B ≤ q) s.heap H locs) (hL : jLok B EX nL L ls) (hc : cells + nc0 = h.2.1) (hs : slots + ns0 = h.2.2.1) (hz : h.2.2.2 = (Ln, xs))
    (hR : h'.2.1 ≤ nc0 + R.cells ∧ h'.2.2.1 ≤ ns0 + R.slots)
    (kk : ∀ (H' : Heap) (locs' : List Loc) (ls' : Array Slot) (cells' slots' : Nat), va_P D jcls (jws cA B EX h'.1) H' → va_S (fun q => B ≤ q) s.heap H' locs' → jLok B EX nL L' ls' → cells' + nc0 = h'.2.1 → slots' + ns0 = h'.2.2.1 → h'.2.2.2 = (Ln, xs) → W p l en R s m args below meth c H' locs' cells' slots' Q (F0 m (jpc pcs pc') ls' (S'.map (jcv B EX)))) (hd : decode cc pc = .ok (.astore_n k, len)) (hk : k.val = a) (hn : jnxok pcs pc len nx 1 = true) (hst : jstep (.astore_n k, nx, a, b, v, sw) L S h = some (pc', L', S', h')) : W p l en R s m args below meth c H locs cells slots Q (F0 m (jpc pcs i) ls (S.map (jcv B EX))) := by
  obtain ⟨hx, hb, hml, hown, hin, hts, hK, hBs, hsz, hF, hlk⟩ := C0
  have hpc : jpc pcs i = pc := by simp [jpc, hp]
  rw [hpc]
  unfold jstep at hst
  dsimp only at hst
  subst hk
  obtain ⟨rfl, e1⟩ := jnx_spec hn
  split at hst
  · rename_i x S1
    rw [jcond_ite] at hst
    split at hst
    · rename_i hlt
      obtain ⟨rfl, rfl, rfl, rfl⟩ := jsome4 hst
      have hlt2 := Nat.le_of_ble_eq_true hlt
      rw [hL.2.1] at hlt2
      show W p l en R s m args below meth c H locs cells slots Q (F0 m pc ls (.ref (B + x) :: S1.map (jcv B EX)))
      refine lv_astore_n hx hb hd rfl hL.1 hlt2 rfl (fun ls' hl' => ?_)
      rw [← e1]
      exact kk _ _ _ _ _ hP hS (hL.st1 rfl hl') hc hs hz
    · cases hst
  · cases hst

set_option maxRecDepth 4000 in
theorem jS_lstore {k : Nat} {pcs : List (Nat × Nat)} {i nx a b : Nat} {v : Value} {sw : List (Int32 × Nat)} {pc len : Nat} {L L' : jL} {S S' : List Value} {h h' : jH} {pc' : Nat} (C0 : jC p s args m meth c cc nL own isI D cA B EX adV Ln xs nc0) (hp : jnth pcs i = some (pc, len))
    {H : Heap} {locs : List Loc} {ls : Array Slot} {cells slots : Nat} (hP : va_P D jcls (jws cA B EX h.1) H) (hS : va_S (fun q => B ≤ q) s.heap H locs) (hL : jLok B EX nL L ls) (hc : cells + nc0 = h.2.1) (hs : slots + ns0 = h.2.2.1) (hz : h.2.2.2 = (Ln, xs))
    (hR : h'.2.1 ≤ nc0 + R.cells ∧ h'.2.2.1 ≤ ns0 + R.slots)
    (kk : ∀ (H' : Heap) (locs' : List Loc) (ls' : Array Slot) (cells' slots' : Nat), va_P D jcls (jws cA B EX h'.1) H' → va_S (fun q => B ≤ q) s.heap H' locs' → jLok B EX nL L' ls' → cells' + nc0 = h'.2.1 → slots' + ns0 = h'.2.2.1 → h'.2.2.2 = (Ln, xs) → W p l en R s m args below meth c H' locs' cells' slots' Q (F0 m (jpc pcs pc') ls' (S'.map (jcv B EX)))) (hd : decode cc pc = .ok (.lstore k, len)) (hk : k = a) (hn : jnxok pcs pc len nx 2 = true) (hst : jstep (.lstore k, nx, a, b, v, sw) L S h = some (pc', L', S', h')) : W p l en R s m args below meth c H locs cells slots Q (F0 m (jpc pcs i) ls (S.map (jcv B EX))) := by
  obtain ⟨hx, hb, hml, hown, hin, hts, hK, hBs, hsz, hF, hlk⟩ := C0
  have hpc : jpc pcs i = pc := by simp [jpc, hp]
  rw [hpc]
  unfold jstep at hst
  dsimp only at hst
  subst hk
  obtain ⟨rfl, e1⟩ := jnx_spec hn
  split at hst
  · rename_i x S1
    rw [jcond_ite] at hst
    split at hst
    · rename_i hlt
      obtain ⟨rfl, rfl, rfl, rfl⟩ := jsome4 hst
      have hlt2 := Nat.le_of_ble_eq_true hlt
      rw [hL.2.1] at hlt2
      show W p l en R s m args below meth c H locs cells slots Q (F0 m pc ls (.long x :: S1.map (jcv B EX)))
      refine lv_lstore hx hb hd hL.1 hlt2 rfl (fun ls' hl' => ?_)
      rw [← e1]
      exact kk _ _ _ _ _ hP hS (hL.st2 hl') hc hs hz
    · cases hst
  · cases hst

set_option maxRecDepth 4000 in
theorem jS_lstore_n {k : Fin 4} {pcs : List (Nat × Nat)} {i nx a b : Nat} {v : Value} {sw : List (Int32 × Nat)} {pc len : Nat} {L L' : jL} {S S' : List Value} {h h' : jH} {pc' : Nat} (C0 : jC p s args m meth c cc nL own isI D cA B EX adV Ln xs nc0) (hp : jnth pcs i = some (pc, len))
    {H : Heap} {locs : List Loc} {ls : Array Slot} {cells slots : Nat} (hP : va_P D jcls (jws cA B EX h.1) H) (hS : va_S (fun q => B ≤ q) s.heap H locs) (hL : jLok B EX nL L ls) (hc : cells + nc0 = h.2.1) (hs : slots + ns0 = h.2.2.1) (hz : h.2.2.2 = (Ln, xs))
    (hR : h'.2.1 ≤ nc0 + R.cells ∧ h'.2.2.1 ≤ ns0 + R.slots)
    (kk : ∀ (H' : Heap) (locs' : List Loc) (ls' : Array Slot) (cells' slots' : Nat), va_P D jcls (jws cA B EX h'.1) H' → va_S (fun q => B ≤ q) s.heap H' locs' → jLok B EX nL L' ls' → cells' + nc0 = h'.2.1 → slots' + ns0 = h'.2.2.1 → h'.2.2.2 = (Ln, xs) → W p l en R s m args below meth c H' locs' cells' slots' Q (F0 m (jpc pcs pc') ls' (S'.map (jcv B EX)))) (hd : decode cc pc = .ok (.lstore_n k, len)) (hk : k.val = a) (hn : jnxok pcs pc len nx 1 = true) (hst : jstep (.lstore_n k, nx, a, b, v, sw) L S h = some (pc', L', S', h')) : W p l en R s m args below meth c H locs cells slots Q (F0 m (jpc pcs i) ls (S.map (jcv B EX))) := by
  obtain ⟨hx, hb, hml, hown, hin, hts, hK, hBs, hsz, hF, hlk⟩ := C0
  have hpc : jpc pcs i = pc := by simp [jpc, hp]
  rw [hpc]
  unfold jstep at hst
  dsimp only at hst
  subst hk
  obtain ⟨rfl, e1⟩ := jnx_spec hn
  split at hst
  · rename_i x S1
    rw [jcond_ite] at hst
    split at hst
    · rename_i hlt
      obtain ⟨rfl, rfl, rfl, rfl⟩ := jsome4 hst
      have hlt2 := Nat.le_of_ble_eq_true hlt
      rw [hL.2.1] at hlt2
      show W p l en R s m args below meth c H locs cells slots Q (F0 m pc ls (.long x :: S1.map (jcv B EX)))
      refine lv_lstore_n hx hb hd rfl hL.1 hlt2 rfl (fun ls' hl' => ?_)
      rw [← e1]
      exact kk _ _ _ _ _ hP hS (hL.st2 hl') hc hs hz
    · cases hst
  · cases hst

set_option maxRecDepth 4000 in
theorem jS_iinc {k : Nat} {n : Int} {pcs : List (Nat × Nat)} {i nx a b : Nat} {v : Value} {sw : List (Int32 × Nat)} {pc len : Nat} {L L' : jL} {S S' : List Value} {h h' : jH} {pc' : Nat} (C0 : jC p s args m meth c cc nL own isI D cA B EX adV Ln xs nc0) (hp : jnth pcs i = some (pc, len))
    {H : Heap} {locs : List Loc} {ls : Array Slot} {cells slots : Nat} (hP : va_P D jcls (jws cA B EX h.1) H) (hS : va_S (fun q => B ≤ q) s.heap H locs) (hL : jLok B EX nL L ls) (hc : cells + nc0 = h.2.1) (hs : slots + ns0 = h.2.2.1) (hz : h.2.2.2 = (Ln, xs))
    (hR : h'.2.1 ≤ nc0 + R.cells ∧ h'.2.2.1 ≤ ns0 + R.slots)
    (kk : ∀ (H' : Heap) (locs' : List Loc) (ls' : Array Slot) (cells' slots' : Nat), va_P D jcls (jws cA B EX h'.1) H' → va_S (fun q => B ≤ q) s.heap H' locs' → jLok B EX nL L' ls' → cells' + nc0 = h'.2.1 → slots' + ns0 = h'.2.2.1 → h'.2.2.2 = (Ln, xs) → W p l en R s m args below meth c H' locs' cells' slots' Q (F0 m (jpc pcs pc') ls' (S'.map (jcv B EX)))) (hd : decode cc pc = .ok (.iinc k n, len)) (hk : k = a) (hv : v = .int (Int32.ofInt n)) (hn : jnxok pcs pc len nx 3 = true) (hst : jstep (.iinc k n, nx, a, b, v, sw) L S h = some (pc', L', S', h')) : W p l en R s m args below meth c H locs cells slots Q (F0 m (jpc pcs i) ls (S.map (jcv B EX))) := by
  obtain ⟨hx, hb, hml, hown, hin, hts, hK, hBs, hsz, hF, hlk⟩ := C0
  have hpc : jpc pcs i = pc := by simp [jpc, hp]
  rw [hpc]
  unfold jstep at hst
  dsimp only at hst
  subst hk
  subst hv
  obtain ⟨rfl, e1⟩ := jnx_spec hn
  split at hst
  · rename_i w x hw hq
    cases hw
    obtain ⟨rfl, rfl, rfl, rfl⟩ := jsome4 hst
    have hm := (jal_mem (B := B) (EX := EX)).mpr (Or.inl ⟨_, hq, rfl⟩)
    obtain ⟨q, hq2⟩ := List.getElem?_of_mem hm
    have hlt : k < nL := by
      rw [← hL.2.1]
      rw [jnth_eq] at hq
      exact (List.getElem?_eq_some_iff.mp hq).1
    show W p l en R s m args below meth c H locs cells slots Q (F0 m pc ls (S.map (jcv B EX)))
    refine lv_iinc hx hb hd hL.1 (k := q) hq2 rfl hlt rfl (fun ls' hl' => ?_)
    rw [← e1]
    exact kk _ _ _ _ _ hP hS (hL.st1 (v := .int _) rfl hl') hc hs hz
  · cases hst

set_option maxRecDepth 4000 in
theorem jS_goto {off : Int} {pcs : List (Nat × Nat)} {i nx a b : Nat} {v : Value} {sw : List (Int32 × Nat)} {pc len : Nat} {L L' : jL} {S S' : List Value} {h h' : jH} {pc' : Nat} (C0 : jC p s args m meth c cc nL own isI D cA B EX adV Ln xs nc0) (hp : jnth pcs i = some (pc, len))
    {H : Heap} {locs : List Loc} {ls : Array Slot} {cells slots : Nat} (hP : va_P D jcls (jws cA B EX h.1) H) (hS : va_S (fun q => B ≤ q) s.heap H locs) (hL : jLok B EX nL L ls) (hc : cells + nc0 = h.2.1) (hs : slots + ns0 = h.2.2.1) (hz : h.2.2.2 = (Ln, xs))
    (hR : h'.2.1 ≤ nc0 + R.cells ∧ h'.2.2.1 ≤ ns0 + R.slots)
    (kk : ∀ (H' : Heap) (locs' : List Loc) (ls' : Array Slot) (cells' slots' : Nat), va_P D jcls (jws cA B EX h'.1) H' → va_S (fun q => B ≤ q) s.heap H' locs' → jLok B EX nL L' ls' → cells' + nc0 = h'.2.1 → slots' + ns0 = h'.2.2.1 → h'.2.2.2 = (Ln, xs) → W p l en R s m args below meth c H' locs' cells' slots' Q (F0 m (jpc pcs pc') ls' (S'.map (jcv B EX)))) (hd : decode cc pc = .ok (.goto off, len)) (hl3 : len = 3) (ht : jtgt pcs pc a off = true) (hst : jstep (.goto off, nx, a, b, v, sw) L S h = some (pc', L', S', h')) : W p l en R s m args below meth c H locs cells slots Q (F0 m (jpc pcs i) ls (S.map (jcv B EX))) := by
  obtain ⟨hx, hb, hml, hown, hin, hts, hK, hBs, hsz, hF, hlk⟩ := C0
  have hpc : jpc pcs i = pc := by simp [jpc, hp]
  rw [hpc]
  unfold jstep at hst
  dsimp only at hst
  subst hl3
  obtain ⟨rfl, rfl, rfl, rfl⟩ := jsome4 hst
  show W p l en R s m args below meth c H locs cells slots Q (F0 m pc ls (S.map (jcv B EX)))
  exact lv_goto hx hb hd (jtg_spec ht) (kk _ _ _ _ _ hP hS hL hc hs hz)

set_option maxRecDepth 4000 in
theorem jS_if_eq {off : Int} {pcs : List (Nat × Nat)} {i nx a b : Nat} {v : Value} {sw : List (Int32 × Nat)} {pc len : Nat} {L L' : jL} {S S' : List Value} {h h' : jH} {pc' : Nat} (C0 : jC p s args m meth c cc nL own isI D cA B EX adV Ln xs nc0) (hp : jnth pcs i = some (pc, len))
    {H : Heap} {locs : List Loc} {ls : Array Slot} {cells slots : Nat} (hP : va_P D jcls (jws cA B EX h.1) H) (hS : va_S (fun q => B ≤ q) s.heap H locs) (hL : jLok B EX nL L ls) (hc : cells + nc0 = h.2.1) (hs : slots + ns0 = h.2.2.1) (hz : h.2.2.2 = (Ln, xs))
    (hR : h'.2.1 ≤ nc0 + R.cells ∧ h'.2.2.1 ≤ ns0 + R.slots)
    (kk : ∀ (H' : Heap) (locs' : List Loc) (ls' : Array Slot) (cells' slots' : Nat), va_P D jcls (jws cA B EX h'.1) H' → va_S (fun q => B ≤ q) s.heap H' locs' → jLok B EX nL L' ls' → cells' + nc0 = h'.2.1 → slots' + ns0 = h'.2.2.1 → h'.2.2.2 = (Ln, xs) → W p l en R s m args below meth c H' locs' cells' slots' Q (F0 m (jpc pcs pc') ls' (S'.map (jcv B EX)))) (hd : decode cc pc = .ok (.ifCond .eq off, len)) (hn : jnxok pcs pc len nx 3 = true) (ht : jtgt pcs pc a off = true) (hst : jstep (.ifCond .eq off, nx, a, b, v, sw) L S h = some (pc', L', S', h')) : W p l en R s m args below meth c H locs cells slots Q (F0 m (jpc pcs i) ls (S.map (jcv B EX))) := by
  obtain ⟨hx, hb, hml, hown, hin, hts, hK, hBs, hsz, hF, hlk⟩ := C0
  have hpc : jpc pcs i = pc := by simp [jpc, hp]
  rw [hpc]
  unfold jstep at hst
  dsimp only at hst
  obtain ⟨rfl, e1⟩ := jnx_spec hn
  have e2 := jtg_spec ht
  split at hst
  · rename_i x S1
    simp only [jc1, Option.some.injEq, Prod.mk.injEq] at hst
    obtain ⟨hpc2, rfl, rfl, rfl⟩ := hst
    show W p l en R s m args below meth c H locs cells slots Q (F0 m pc ls (.int x :: S1.map (jcv B EX)))
    refine lv_if_eq hx hb hd e2 (fun hg => ?_) (fun hg => ?_)
    · rw [if_pos hg] at hpc2
      rw [hpc2]
      exact kk _ _ _ _ _ hP hS hL hc hs hz
    · rw [if_neg hg] at hpc2
      rw [← e1, hpc2]
      exact kk _ _ _ _ _ hP hS hL hc hs hz
  · cases hst

set_option maxRecDepth 4000 in
theorem jS_if_ne {off : Int} {pcs : List (Nat × Nat)} {i nx a b : Nat} {v : Value} {sw : List (Int32 × Nat)} {pc len : Nat} {L L' : jL} {S S' : List Value} {h h' : jH} {pc' : Nat} (C0 : jC p s args m meth c cc nL own isI D cA B EX adV Ln xs nc0) (hp : jnth pcs i = some (pc, len))
    {H : Heap} {locs : List Loc} {ls : Array Slot} {cells slots : Nat} (hP : va_P D jcls (jws cA B EX h.1) H) (hS : va_S (fun q => B ≤ q) s.heap H locs) (hL : jLok B EX nL L ls) (hc : cells + nc0 = h.2.1) (hs : slots + ns0 = h.2.2.1) (hz : h.2.2.2 = (Ln, xs))
    (hR : h'.2.1 ≤ nc0 + R.cells ∧ h'.2.2.1 ≤ ns0 + R.slots)
    (kk : ∀ (H' : Heap) (locs' : List Loc) (ls' : Array Slot) (cells' slots' : Nat), va_P D jcls (jws cA B EX h'.1) H' → va_S (fun q => B ≤ q) s.heap H' locs' → jLok B EX nL L' ls' → cells' + nc0 = h'.2.1 → slots' + ns0 = h'.2.2.1 → h'.2.2.2 = (Ln, xs) → W p l en R s m args below meth c H' locs' cells' slots' Q (F0 m (jpc pcs pc') ls' (S'.map (jcv B EX)))) (hd : decode cc pc = .ok (.ifCond .ne off, len)) (hn : jnxok pcs pc len nx 3 = true) (ht : jtgt pcs pc a off = true) (hst : jstep (.ifCond .ne off, nx, a, b, v, sw) L S h = some (pc', L', S', h')) : W p l en R s m args below meth c H locs cells slots Q (F0 m (jpc pcs i) ls (S.map (jcv B EX))) := by
  obtain ⟨hx, hb, hml, hown, hin, hts, hK, hBs, hsz, hF, hlk⟩ := C0
  have hpc : jpc pcs i = pc := by simp [jpc, hp]
  rw [hpc]
  unfold jstep at hst
  dsimp only at hst
  obtain ⟨rfl, e1⟩ := jnx_spec hn
  have e2 := jtg_spec ht
  split at hst
  · rename_i x S1
    simp only [jc1, Option.some.injEq, Prod.mk.injEq] at hst
    obtain ⟨hpc2, rfl, rfl, rfl⟩ := hst
    show W p l en R s m args below meth c H locs cells slots Q (F0 m pc ls (.int x :: S1.map (jcv B EX)))
    refine lv_if_ne hx hb hd e2 (fun hg => ?_) (fun hg => ?_)
    · rw [if_neg hg] at hpc2
      rw [hpc2]
      exact kk _ _ _ _ _ hP hS hL hc hs hz
    · rw [if_pos hg] at hpc2
      rw [← e1, hpc2]
      exact kk _ _ _ _ _ hP hS hL hc hs hz
  · cases hst

set_option maxRecDepth 4000 in
theorem jS_if_lt {off : Int} {pcs : List (Nat × Nat)} {i nx a b : Nat} {v : Value} {sw : List (Int32 × Nat)} {pc len : Nat} {L L' : jL} {S S' : List Value} {h h' : jH} {pc' : Nat} (C0 : jC p s args m meth c cc nL own isI D cA B EX adV Ln xs nc0) (hp : jnth pcs i = some (pc, len))
    {H : Heap} {locs : List Loc} {ls : Array Slot} {cells slots : Nat} (hP : va_P D jcls (jws cA B EX h.1) H) (hS : va_S (fun q => B ≤ q) s.heap H locs) (hL : jLok B EX nL L ls) (hc : cells + nc0 = h.2.1) (hs : slots + ns0 = h.2.2.1) (hz : h.2.2.2 = (Ln, xs))
    (hR : h'.2.1 ≤ nc0 + R.cells ∧ h'.2.2.1 ≤ ns0 + R.slots)
    (kk : ∀ (H' : Heap) (locs' : List Loc) (ls' : Array Slot) (cells' slots' : Nat), va_P D jcls (jws cA B EX h'.1) H' → va_S (fun q => B ≤ q) s.heap H' locs' → jLok B EX nL L' ls' → cells' + nc0 = h'.2.1 → slots' + ns0 = h'.2.2.1 → h'.2.2.2 = (Ln, xs) → W p l en R s m args below meth c H' locs' cells' slots' Q (F0 m (jpc pcs pc') ls' (S'.map (jcv B EX)))) (hd : decode cc pc = .ok (.ifCond .lt off, len)) (hn : jnxok pcs pc len nx 3 = true) (ht : jtgt pcs pc a off = true) (hst : jstep (.ifCond .lt off, nx, a, b, v, sw) L S h = some (pc', L', S', h')) : W p l en R s m args below meth c H locs cells slots Q (F0 m (jpc pcs i) ls (S.map (jcv B EX))) := by
  obtain ⟨hx, hb, hml, hown, hin, hts, hK, hBs, hsz, hF, hlk⟩ := C0
  have hpc : jpc pcs i = pc := by simp [jpc, hp]
  rw [hpc]
  unfold jstep at hst
  dsimp only at hst
  obtain ⟨rfl, e1⟩ := jnx_spec hn
  have e2 := jtg_spec ht
  split at hst
  · rename_i x S1
    simp only [jc1, Option.some.injEq, Prod.mk.injEq] at hst
    obtain ⟨hpc2, rfl, rfl, rfl⟩ := hst
    show W p l en R s m args below meth c H locs cells slots Q (F0 m pc ls (.int x :: S1.map (jcv B EX)))
    refine lv_if_lt hx hb hd e2 (fun hg => ?_) (fun hg => ?_)
    · rw [if_pos hg] at hpc2
      rw [hpc2]
      exact kk _ _ _ _ _ hP hS hL hc hs hz
    · rw [if_neg hg] at hpc2
      rw [← e1, hpc2]
      exact kk _ _ _ _ _ hP hS hL hc hs hz
  · cases hst

set_option maxRecDepth 4000 in
theorem jS_if_ge {off : Int} {pcs : List (Nat × Nat)} {i nx a b : Nat} {v : Value} {sw : List (Int32 × Nat)} {pc len : Nat} {L L' : jL} {S S' : List Value} {h h' : jH} {pc' : Nat} (C0 : jC p s args m meth c cc nL own isI D cA B EX adV Ln xs nc0) (hp : jnth pcs i = some (pc, len))
    {H : Heap} {locs : List Loc} {ls : Array Slot} {cells slots : Nat} (hP : va_P D jcls (jws cA B EX h.1) H) (hS : va_S (fun q => B ≤ q) s.heap H locs) (hL : jLok B EX nL L ls) (hc : cells + nc0 = h.2.1) (hs : slots + ns0 = h.2.2.1) (hz : h.2.2.2 = (Ln, xs))
    (hR : h'.2.1 ≤ nc0 + R.cells ∧ h'.2.2.1 ≤ ns0 + R.slots)
    (kk : ∀ (H' : Heap) (locs' : List Loc) (ls' : Array Slot) (cells' slots' : Nat), va_P D jcls (jws cA B EX h'.1) H' → va_S (fun q => B ≤ q) s.heap H' locs' → jLok B EX nL L' ls' → cells' + nc0 = h'.2.1 → slots' + ns0 = h'.2.2.1 → h'.2.2.2 = (Ln, xs) → W p l en R s m args below meth c H' locs' cells' slots' Q (F0 m (jpc pcs pc') ls' (S'.map (jcv B EX)))) (hd : decode cc pc = .ok (.ifCond .ge off, len)) (hn : jnxok pcs pc len nx 3 = true) (ht : jtgt pcs pc a off = true) (hst : jstep (.ifCond .ge off, nx, a, b, v, sw) L S h = some (pc', L', S', h')) : W p l en R s m args below meth c H locs cells slots Q (F0 m (jpc pcs i) ls (S.map (jcv B EX))) := by
  obtain ⟨hx, hb, hml, hown, hin, hts, hK, hBs, hsz, hF, hlk⟩ := C0
  have hpc : jpc pcs i = pc := by simp [jpc, hp]
  rw [hpc]
  unfold jstep at hst
  dsimp only at hst
  obtain ⟨rfl, e1⟩ := jnx_spec hn
  have e2 := jtg_spec ht
  split at hst
  · rename_i x S1
    simp only [jc1, Option.some.injEq, Prod.mk.injEq] at hst
    obtain ⟨hpc2, rfl, rfl, rfl⟩ := hst
    show W p l en R s m args below meth c H locs cells slots Q (F0 m pc ls (.int x :: S1.map (jcv B EX)))
    refine lv_if_ge hx hb hd e2 (fun hg => ?_) (fun hg => ?_)
    · rw [if_neg (Int32.not_lt.mpr hg)] at hpc2
      rw [hpc2]
      exact kk _ _ _ _ _ hP hS hL hc hs hz
    · rw [if_pos (Int32.not_le.mp hg)] at hpc2
      rw [← e1, hpc2]
      exact kk _ _ _ _ _ hP hS hL hc hs hz
  · cases hst

set_option maxRecDepth 4000 in
theorem jS_if_gt {off : Int} {pcs : List (Nat × Nat)} {i nx a b : Nat} {v : Value} {sw : List (Int32 × Nat)} {pc len : Nat} {L L' : jL} {S S' : List Value} {h h' : jH} {pc' : Nat} (C0 : jC p s args m meth c cc nL own isI D cA B EX adV Ln xs nc0) (hp : jnth pcs i = some (pc, len))
    {H : Heap} {locs : List Loc} {ls : Array Slot} {cells slots : Nat} (hP : va_P D jcls (jws cA B EX h.1) H) (hS : va_S (fun q => B ≤ q) s.heap H locs) (hL : jLok B EX nL L ls) (hc : cells + nc0 = h.2.1) (hs : slots + ns0 = h.2.2.1) (hz : h.2.2.2 = (Ln, xs))
    (hR : h'.2.1 ≤ nc0 + R.cells ∧ h'.2.2.1 ≤ ns0 + R.slots)
    (kk : ∀ (H' : Heap) (locs' : List Loc) (ls' : Array Slot) (cells' slots' : Nat), va_P D jcls (jws cA B EX h'.1) H' → va_S (fun q => B ≤ q) s.heap H' locs' → jLok B EX nL L' ls' → cells' + nc0 = h'.2.1 → slots' + ns0 = h'.2.2.1 → h'.2.2.2 = (Ln, xs) → W p l en R s m args below meth c H' locs' cells' slots' Q (F0 m (jpc pcs pc') ls' (S'.map (jcv B EX)))) (hd : decode cc pc = .ok (.ifCond .gt off, len)) (hn : jnxok pcs pc len nx 3 = true) (ht : jtgt pcs pc a off = true) (hst : jstep (.ifCond .gt off, nx, a, b, v, sw) L S h = some (pc', L', S', h')) : W p l en R s m args below meth c H locs cells slots Q (F0 m (jpc pcs i) ls (S.map (jcv B EX))) := by
  obtain ⟨hx, hb, hml, hown, hin, hts, hK, hBs, hsz, hF, hlk⟩ := C0
  have hpc : jpc pcs i = pc := by simp [jpc, hp]
  rw [hpc]
  unfold jstep at hst
  dsimp only at hst
  obtain ⟨rfl, e1⟩ := jnx_spec hn
  have e2 := jtg_spec ht
  split at hst
  · rename_i x S1
    simp only [jc1, Option.some.injEq, Prod.mk.injEq] at hst
    obtain ⟨hpc2, rfl, rfl, rfl⟩ := hst
    show W p l en R s m args below meth c H locs cells slots Q (F0 m pc ls (.int x :: S1.map (jcv B EX)))
    refine lv_if_gt hx hb hd e2 (fun hg => ?_) (fun hg => ?_)
    · rw [if_pos hg] at hpc2
      rw [hpc2]
      exact kk _ _ _ _ _ hP hS hL hc hs hz
    · rw [if_neg hg] at hpc2
      rw [← e1, hpc2]
      exact kk _ _ _ _ _ hP hS hL hc hs hz
  · cases hst

set_option maxRecDepth 4000 in
theorem jS_if_le {off : Int} {pcs : List (Nat × Nat)} {i nx a b : Nat} {v : Value} {sw : List (Int32 × Nat)} {pc len : Nat} {L L' : jL} {S S' : List Value} {h h' : jH} {pc' : Nat} (C0 : jC p s args m meth c cc nL own isI D cA B EX adV Ln xs nc0) (hp : jnth pcs i = some (pc, len))
    {H : Heap} {locs : List Loc} {ls : Array Slot} {cells slots : Nat} (hP : va_P D jcls (jws cA B EX h.1) H) (hS : va_S (fun q => B ≤ q) s.heap H locs) (hL : jLok B EX nL L ls) (hc : cells + nc0 = h.2.1) (hs : slots + ns0 = h.2.2.1) (hz : h.2.2.2 = (Ln, xs))
    (hR : h'.2.1 ≤ nc0 + R.cells ∧ h'.2.2.1 ≤ ns0 + R.slots)
    (kk : ∀ (H' : Heap) (locs' : List Loc) (ls' : Array Slot) (cells' slots' : Nat), va_P D jcls (jws cA B EX h'.1) H' → va_S (fun q => B ≤ q) s.heap H' locs' → jLok B EX nL L' ls' → cells' + nc0 = h'.2.1 → slots' + ns0 = h'.2.2.1 → h'.2.2.2 = (Ln, xs) → W p l en R s m args below meth c H' locs' cells' slots' Q (F0 m (jpc pcs pc') ls' (S'.map (jcv B EX)))) (hd : decode cc pc = .ok (.ifCond .le off, len)) (hn : jnxok pcs pc len nx 3 = true) (ht : jtgt pcs pc a off = true) (hst : jstep (.ifCond .le off, nx, a, b, v, sw) L S h = some (pc', L', S', h')) : W p l en R s m args below meth c H locs cells slots Q (F0 m (jpc pcs i) ls (S.map (jcv B EX))) := by
  obtain ⟨hx, hb, hml, hown, hin, hts, hK, hBs, hsz, hF, hlk⟩ := C0
  have hpc : jpc pcs i = pc := by simp [jpc, hp]
  rw [hpc]
  unfold jstep at hst
  dsimp only at hst
  obtain ⟨rfl, e1⟩ := jnx_spec hn
  have e2 := jtg_spec ht
  split at hst
  · rename_i x S1
    simp only [jc1, Option.some.injEq, Prod.mk.injEq] at hst
    obtain ⟨hpc2, rfl, rfl, rfl⟩ := hst
    show W p l en R s m args below meth c H locs cells slots Q (F0 m pc ls (.int x :: S1.map (jcv B EX)))
    refine lv_if_le hx hb hd e2 (fun hg => ?_) (fun hg => ?_)
    · rw [if_neg (Int32.not_lt.mpr hg)] at hpc2
      rw [hpc2]
      exact kk _ _ _ _ _ hP hS hL hc hs hz
    · rw [if_pos (Int32.not_le.mp hg)] at hpc2
      rw [← e1, hpc2]
      exact kk _ _ _ _ _ hP hS hL hc hs hz
  · cases hst

set_option maxRecDepth 4000 in
theorem jS_icmp_eq {off : Int} {pcs : List (Nat × Nat)} {i nx a b : Nat} {v : Value} {sw : List (Int32 × Nat)} {pc len : Nat} {L L' : jL} {S S' : List Value} {h h' : jH} {pc' : Nat} (C0 : jC p s args m meth c cc nL own isI D cA B EX adV Ln xs nc0) (hp : jnth pcs i = some (pc, len))
    {H : Heap} {locs : List Loc} {ls : Array Slot} {cells slots : Nat} (hP : va_P D jcls (jws cA B EX h.1) H) (hS : va_S (fun q => B ≤ q) s.heap H locs) (hL : jLok B EX nL L ls) (hc : cells + nc0 = h.2.1) (hs : slots + ns0 = h.2.2.1) (hz : h.2.2.2 = (Ln, xs))
    (hR : h'.2.1 ≤ nc0 + R.cells ∧ h'.2.2.1 ≤ ns0 + R.slots)
    (kk : ∀ (H' : Heap) (locs' : List Loc) (ls' : Array Slot) (cells' slots' : Nat), va_P D jcls (jws cA B EX h'.1) H' → va_S (fun q => B ≤ q) s.heap H' locs' → jLok B EX nL L' ls' → cells' + nc0 = h'.2.1 → slots' + ns0 = h'.2.2.1 → h'.2.2.2 = (Ln, xs) → W p l en R s m args below meth c H' locs' cells' slots' Q (F0 m (jpc pcs pc') ls' (S'.map (jcv B EX)))) (hd : decode cc pc = .ok (.if_icmp .eq off, len)) (hn : jnxok pcs pc len nx 3 = true) (ht : jtgt pcs pc a off = true) (hst : jstep (.if_icmp .eq off, nx, a, b, v, sw) L S h = some (pc', L', S', h')) : W p l en R s m args below meth c H locs cells slots Q (F0 m (jpc pcs i) ls (S.map (jcv B EX))) := by
  obtain ⟨hx, hb, hml, hown, hin, hts, hK, hBs, hsz, hF, hlk⟩ := C0
  have hpc : jpc pcs i = pc := by simp [jpc, hp]
  rw [hpc]
  unfold jstep at hst
  dsimp only at hst
  obtain ⟨rfl, e1⟩ := jnx_spec hn
  have e2 := jtg_spec ht
  split at hst
  · rename_i y x S1
    simp only [jc2, Option.some.injEq, Prod.mk.injEq] at hst
    obtain ⟨hpc2, rfl, rfl, rfl⟩ := hst
    show W p l en R s m args below meth c H locs cells slots Q (F0 m pc ls (.int y :: .int x :: S1.map (jcv B EX)))
    refine lv_icmp_eq hx hb hd e2 (fun hg => ?_) (fun hg => ?_)
    · rw [if_pos hg] at hpc2
      rw [hpc2]
      exact kk _ _ _ _ _ hP hS hL hc hs hz
    · rw [if_neg hg] at hpc2
      rw [← e1, hpc2]
      exact kk _ _ _ _ _ hP hS hL hc hs hz
  · cases hst

set_option maxRecDepth 4000 in
theorem jS_icmp_ne {off : Int} {pcs : List (Nat × Nat)} {i nx a b : Nat} {v : Value} {sw : List (Int32 × Nat)} {pc len : Nat} {L L' : jL} {S S' : List Value} {h h' : jH} {pc' : Nat} (C0 : jC p s args m meth c cc nL own isI D cA B EX adV Ln xs nc0) (hp : jnth pcs i = some (pc, len))
    {H : Heap} {locs : List Loc} {ls : Array Slot} {cells slots : Nat} (hP : va_P D jcls (jws cA B EX h.1) H) (hS : va_S (fun q => B ≤ q) s.heap H locs) (hL : jLok B EX nL L ls) (hc : cells + nc0 = h.2.1) (hs : slots + ns0 = h.2.2.1) (hz : h.2.2.2 = (Ln, xs))
    (hR : h'.2.1 ≤ nc0 + R.cells ∧ h'.2.2.1 ≤ ns0 + R.slots)
    (kk : ∀ (H' : Heap) (locs' : List Loc) (ls' : Array Slot) (cells' slots' : Nat), va_P D jcls (jws cA B EX h'.1) H' → va_S (fun q => B ≤ q) s.heap H' locs' → jLok B EX nL L' ls' → cells' + nc0 = h'.2.1 → slots' + ns0 = h'.2.2.1 → h'.2.2.2 = (Ln, xs) → W p l en R s m args below meth c H' locs' cells' slots' Q (F0 m (jpc pcs pc') ls' (S'.map (jcv B EX)))) (hd : decode cc pc = .ok (.if_icmp .ne off, len)) (hn : jnxok pcs pc len nx 3 = true) (ht : jtgt pcs pc a off = true) (hst : jstep (.if_icmp .ne off, nx, a, b, v, sw) L S h = some (pc', L', S', h')) : W p l en R s m args below meth c H locs cells slots Q (F0 m (jpc pcs i) ls (S.map (jcv B EX))) := by
  obtain ⟨hx, hb, hml, hown, hin, hts, hK, hBs, hsz, hF, hlk⟩ := C0
  have hpc : jpc pcs i = pc := by simp [jpc, hp]
  rw [hpc]
  unfold jstep at hst
  dsimp only at hst
  obtain ⟨rfl, e1⟩ := jnx_spec hn
  have e2 := jtg_spec ht
  split at hst
  · rename_i y x S1
    simp only [jc2, Option.some.injEq, Prod.mk.injEq] at hst
    obtain ⟨hpc2, rfl, rfl, rfl⟩ := hst
    show W p l en R s m args below meth c H locs cells slots Q (F0 m pc ls (.int y :: .int x :: S1.map (jcv B EX)))
    refine lv_icmp_ne hx hb hd e2 (fun hg => ?_) (fun hg => ?_)
    · rw [if_neg hg] at hpc2
      rw [hpc2]
      exact kk _ _ _ _ _ hP hS hL hc hs hz
    · rw [if_pos hg] at hpc2
      rw [← e1, hpc2]
      exact kk _ _ _ _ _ hP hS hL hc hs hz
  · cases hst

set_option maxRecDepth 4000 in
theorem jS_icmp_lt {off : Int} {pcs : List (Nat × Nat)} {i nx a b : Nat} {v : Value} {sw : List (Int32 × Nat)} {pc len : Nat} {L L' : jL} {S S' : List Value} {h h' : jH} {pc' : Nat} (C0 : jC p s args m meth c cc nL own isI D cA B EX adV Ln xs nc0) (hp : jnth pcs i = some (pc, len))
    {H : Heap} {locs : List Loc} {ls : Array Slot} {cells slots : Nat} (hP : va_P D jcls (jws cA B EX h.1) H) (hS : va_S (fun q => B ≤ q) s.heap H locs) (hL : jLok B EX nL L ls) (hc : cells + nc0 = h.2.1) (hs : slots + ns0 = h.2.2.1) (hz : h.2.2.2 = (Ln, xs))
    (hR : h'.2.1 ≤ nc0 + R.cells ∧ h'.2.2.1 ≤ ns0 + R.slots)
    (kk : ∀ (H' : Heap) (locs' : List Loc) (ls' : Array Slot) (cells' slots' : Nat), va_P D jcls (jws cA B EX h'.1) H' → va_S (fun q => B ≤ q) s.heap H' locs' → jLok B EX nL L' ls' → cells' + nc0 = h'.2.1 → slots' + ns0 = h'.2.2.1 → h'.2.2.2 = (Ln, xs) → W p l en R s m args below meth c H' locs' cells' slots' Q (F0 m (jpc pcs pc') ls' (S'.map (jcv B EX)))) (hd : decode cc pc = .ok (.if_icmp .lt off, len)) (hn : jnxok pcs pc len nx 3 = true) (ht : jtgt pcs pc a off = true) (hst : jstep (.if_icmp .lt off, nx, a, b, v, sw) L S h = some (pc', L', S', h')) : W p l en R s m args below meth c H locs cells slots Q (F0 m (jpc pcs i) ls (S.map (jcv B EX))) := by
  obtain ⟨hx, hb, hml, hown, hin, hts, hK, hBs, hsz, hF, hlk⟩ := C0
  have hpc : jpc pcs i = pc := by simp [jpc, hp]
  rw [hpc]
  unfold jstep at hst
  dsimp only at hst
  obtain ⟨rfl, e1⟩ := jnx_spec hn
  have e2 := jtg_spec ht
  split at hst
  · rename_i y x S1
    simp only [jc2, Option.some.injEq, Prod.mk.injEq] at hst
    obtain ⟨hpc2, rfl, rfl, rfl⟩ := hst
    show W p l en R s m args below meth c H locs cells slots Q (F0 m pc ls (.int y :: .int x :: S1.map (jcv B EX)))
    refine lv_icmp_lt hx hb hd e2 (fun hg => ?_) (fun hg => ?_)
    · rw [if_pos hg] at hpc2
      rw [hpc2]
      exact kk _ _ _ _ _ hP hS hL hc hs hz
    · rw [if_neg hg] at hpc2
      rw [← e1, hpc2]
      exact kk _ _ _ _ _ hP hS hL hc hs hz
  · cases hst

set_option maxRecDepth 4000 in
theorem jS_icmp_ge {off : Int} {pcs : List (Nat × Nat)} {i nx a b : Nat} {v : Value} {sw : List (Int32 × Nat)} {pc len : Nat} {L L' : jL} {S S' : List Value} {h h' : jH} {pc' : Nat} (C0 : jC p s args m meth c cc nL own isI D cA B EX adV Ln xs nc0) (hp : jnth pcs i = some (pc, len))
    {H : Heap} {locs : List Loc} {ls : Array Slot} {cells slots : Nat} (hP : va_P D jcls (jws cA B EX h.1) H) (hS : va_S (fun q => B ≤ q) s.heap H locs) (hL : jLok B EX nL L ls) (hc : cells + nc0 = h.2.1) (hs : slots + ns0 = h.2.2.1) (hz : h.2.2.2 = (Ln, xs))
    (hR : h'.2.1 ≤ nc0 + R.cells ∧ h'.2.2.1 ≤ ns0 + R.slots)
    (kk : ∀ (H' : Heap) (locs' : List Loc) (ls' : Array Slot) (cells' slots' : Nat), va_P D jcls (jws cA B EX h'.1) H' → va_S (fun q => B ≤ q) s.heap H' locs' → jLok B EX nL L' ls' → cells' + nc0 = h'.2.1 → slots' + ns0 = h'.2.2.1 → h'.2.2.2 = (Ln, xs) → W p l en R s m args below meth c H' locs' cells' slots' Q (F0 m (jpc pcs pc') ls' (S'.map (jcv B EX)))) (hd : decode cc pc = .ok (.if_icmp .ge off, len)) (hn : jnxok pcs pc len nx 3 = true) (ht : jtgt pcs pc a off = true) (hst : jstep (.if_icmp .ge off, nx, a, b, v, sw) L S h = some (pc', L', S', h')) : W p l en R s m args below meth c H locs cells slots Q (F0 m (jpc pcs i) ls (S.map (jcv B EX))) := by
  obtain ⟨hx, hb, hml, hown, hin, hts, hK, hBs, hsz, hF, hlk⟩ := C0
  have hpc : jpc pcs i = pc := by simp [jpc, hp]
  rw [hpc]
  unfold jstep at hst
  dsimp only at hst
  obtain ⟨rfl, e1⟩ := jnx_spec hn
  have e2 := jtg_spec ht
  split at hst
  · rename_i y x S1
    simp only [jc2, Option.some.injEq, Prod.mk.injEq] at hst
    obtain ⟨hpc2, rfl, rfl, rfl⟩ := hst
    show W p l en R s m args below meth c H locs cells slots Q (F0 m pc ls (.int y :: .int x :: S1.map (jcv B EX)))
    refine lv_icmp_ge hx hb hd e2 (fun hg => ?_) (fun hg => ?_)
    · rw [if_neg (Int32.not_lt.mpr hg)] at hpc2
      rw [hpc2]
      exact kk _ _ _ _ _ hP hS hL hc hs hz
    · rw [if_pos (Int32.not_le.mp hg)] at hpc2
      rw [← e1, hpc2]
      exact kk _ _ _ _ _ hP hS hL hc hs hz
  · cases hst

set_option maxRecDepth 4000 in
theorem jS_icmp_gt {off : Int} {pcs : List (Nat × Nat)} {i nx a b : Nat} {v : Value} {sw : List (Int32 × Nat)} {pc len : Nat} {L L' : jL} {S S' : List Value} {h h' : jH} {pc' : Nat} (C0 : jC p s args m meth c cc nL own isI D cA B EX adV Ln xs nc0) (hp : jnth pcs i = some (pc, len))
    {H : Heap} {locs : List Loc} {ls : Array Slot} {cells slots : Nat} (hP : va_P D jcls (jws cA B EX h.1) H) (hS : va_S (fun q => B ≤ q) s.heap H locs) (hL : jLok B EX nL L ls) (hc : cells + nc0 = h.2.1) (hs : slots + ns0 = h.2.2.1) (hz : h.2.2.2 = (Ln, xs))
    (hR : h'.2.1 ≤ nc0 + R.cells ∧ h'.2.2.1 ≤ ns0 + R.slots)
    (kk : ∀ (H' : Heap) (locs' : List Loc) (ls' : Array Slot) (cells' slots' : Nat), va_P D jcls (jws cA B EX h'.1) H' → va_S (fun q => B ≤ q) s.heap H' locs' → jLok B EX nL L' ls' → cells' + nc0 = h'.2.1 → slots' + ns0 = h'.2.2.1 → h'.2.2.2 = (Ln, xs) → W p l en R s m args below meth c H' locs' cells' slots' Q (F0 m (jpc pcs pc') ls' (S'.map (jcv B EX)))) (hd : decode cc pc = .ok (.if_icmp .gt off, len)) (hn : jnxok pcs pc len nx 3 = true) (ht : jtgt pcs pc a off = true) (hst : jstep (.if_icmp .gt off, nx, a, b, v, sw) L S h = some (pc', L', S', h')) : W p l en R s m args below meth c H locs cells slots Q (F0 m (jpc pcs i) ls (S.map (jcv B EX))) := by
  obtain ⟨hx, hb, hml, hown, hin, hts, hK, hBs, hsz, hF, hlk⟩ := C0
  have hpc : jpc pcs i = pc := by simp [jpc, hp]
  rw [hpc]
  unfold jstep at hst
  dsimp only at hst
  obtain ⟨rfl, e1⟩ := jnx_spec hn
  have e2 := jtg_spec ht
  split at hst
  · rename_i y x S1
    simp only [jc2, Option.some.injEq, Prod.mk.injEq] at hst
    obtain ⟨hpc2, rfl, rfl, rfl⟩ := hst
    show W p l en R s m args below meth c H locs cells slots Q (F0 m pc ls (.int y :: .int x :: S1.map (jcv B EX)))
    refine lv_icmp_gt hx hb hd e2 (fun hg => ?_) (fun hg => ?_)
    · rw [if_pos hg] at hpc2
      rw [hpc2]
      exact kk _ _ _ _ _ hP hS hL hc hs hz
    · rw [if_neg hg] at hpc2
      rw [← e1, hpc2]
      exact kk _ _ _ _ _ hP hS hL hc hs hz
  · cases hst

set_option maxRecDepth 4000 in
theorem jS_icmp_le {off : Int} {pcs : List (Nat × Nat)} {i nx a b : Nat} {v : Value} {sw : List (Int32 × Nat)} {pc len : Nat} {L L' : jL} {S S' : List Value} {h h' : jH} {pc' : Nat} (C0 : jC p s args m meth c cc nL own isI D cA B EX adV Ln xs nc0) (hp : jnth pcs i = some (pc, len))
    {H : Heap} {locs : List Loc} {ls : Array Slot} {cells slots : Nat} (hP : va_P D jcls (jws cA B EX h.1) H) (hS : va_S (fun q => B ≤ q) s.heap H locs) (hL : jLok B EX nL L ls) (hc : cells + nc0 = h.2.1) (hs : slots + ns0 = h.2.2.1) (hz : h.2.2.2 = (Ln, xs))
    (hR : h'.2.1 ≤ nc0 + R.cells ∧ h'.2.2.1 ≤ ns0 + R.slots)
    (kk : ∀ (H' : Heap) (locs' : List Loc) (ls' : Array Slot) (cells' slots' : Nat), va_P D jcls (jws cA B EX h'.1) H' → va_S (fun q => B ≤ q) s.heap H' locs' → jLok B EX nL L' ls' → cells' + nc0 = h'.2.1 → slots' + ns0 = h'.2.2.1 → h'.2.2.2 = (Ln, xs) → W p l en R s m args below meth c H' locs' cells' slots' Q (F0 m (jpc pcs pc') ls' (S'.map (jcv B EX)))) (hd : decode cc pc = .ok (.if_icmp .le off, len)) (hn : jnxok pcs pc len nx 3 = true) (ht : jtgt pcs pc a off = true) (hst : jstep (.if_icmp .le off, nx, a, b, v, sw) L S h = some (pc', L', S', h')) : W p l en R s m args below meth c H locs cells slots Q (F0 m (jpc pcs i) ls (S.map (jcv B EX))) := by
  obtain ⟨hx, hb, hml, hown, hin, hts, hK, hBs, hsz, hF, hlk⟩ := C0
  have hpc : jpc pcs i = pc := by simp [jpc, hp]
  rw [hpc]
  unfold jstep at hst
  dsimp only at hst
  obtain ⟨rfl, e1⟩ := jnx_spec hn
  have e2 := jtg_spec ht
  split at hst
  · rename_i y x S1
    simp only [jc2, Option.some.injEq, Prod.mk.injEq] at hst
    obtain ⟨hpc2, rfl, rfl, rfl⟩ := hst
    show W p l en R s m args below meth c H locs cells slots Q (F0 m pc ls (.int y :: .int x :: S1.map (jcv B EX)))
    refine lv_icmp_le hx hb hd e2 (fun hg => ?_) (fun hg => ?_)
    · rw [if_neg (Int32.not_lt.mpr hg)] at hpc2
      rw [hpc2]
      exact kk _ _ _ _ _ hP hS hL hc hs hz
    · rw [if_pos (Int32.not_le.mp hg)] at hpc2
      rw [← e1, hpc2]
      exact kk _ _ _ _ _ hP hS hL hc hs hz
  · cases hst

set_option maxRecDepth 4000 in
theorem jS_dup  {pcs : List (Nat × Nat)} {i nx a b : Nat} {v : Value} {sw : List (Int32 × Nat)} {pc len : Nat} {L L' : jL} {S S' : List Value} {h h' : jH} {pc' : Nat} (C0 : jC p s args m meth c cc nL own isI D cA B EX adV Ln xs nc0) (hp : jnth pcs i = some (pc, len))
    {H : Heap} {locs : List Loc} {ls : Array Slot} {cells slots : Nat} (hP : va_P D jcls (jws cA B EX h.1) H) (hS : va_S (fun q => B ≤ q) s.heap H locs) (hL : jLok B EX nL L ls) (hc : cells + nc0 = h.2.1) (hs : slots + ns0 = h.2.2.1) (hz : h.2.2.2 = (Ln, xs))
    (hR : h'.2.1 ≤ nc0 + R.cells ∧ h'.2.2.1 ≤ ns0 + R.slots)
    (kk : ∀ (H' : Heap) (locs' : List Loc) (ls' : Array Slot) (cells' slots' : Nat), va_P D jcls (jws cA B EX h'.1) H' → va_S (fun q => B ≤ q) s.heap H' locs' → jLok B EX nL L' ls' → cells' + nc0 = h'.2.1 → slots' + ns0 = h'.2.2.1 → h'.2.2.2 = (Ln, xs) → W p l en R s m args below meth c H' locs' cells' slots' Q (F0 m (jpc pcs pc') ls' (S'.map (jcv B EX)))) (hd : decode cc pc = .ok (.dup, len)) (hn : jnxok pcs pc len nx 1 = true) (hst : jstep (.dup, nx, a, b, v, sw) L S h = some (pc', L', S', h')) : W p l en R s m args below meth c H locs cells slots Q (F0 m (jpc pcs i) ls (S.map (jcv B EX))) := by
  obtain ⟨hx, hb, hml, hown, hin, hts, hK, hBs, hsz, hF, hlk⟩ := C0
  have hpc : jpc pcs i = pc := by simp [jpc, hp]
  rw [hpc]
  unfold jstep at hst
  dsimp only at hst
  obtain ⟨rfl, e1⟩ := jnx_spec hn
  split at hst
  · rename_i x S1
    rw [jcond_ite] at hst
    split at hst
    · rename_i hg
      obtain ⟨rfl, rfl, rfl, rfl⟩ := jsome4 hst
      show W p l en R s m args below meth c H locs cells slots Q (F0 m pc ls (jcv B EX x :: S1.map (jcv B EX)))
      refine lv_dup hx hb hd (by rw [jcv_cat]; exact jcat_1 hg) ?_
      rw [← e1]
      exact kk _ _ _ _ _ hP hS hL hc hs hz
    · cases hst
  · cases hst

set_option maxRecDepth 4000 in
theorem jS_pop  {pcs : List (Nat × Nat)} {i nx a b : Nat} {v : Value} {sw : List (Int32 × Nat)} {pc len : Nat} {L L' : jL} {S S' : List Value} {h h' : jH} {pc' : Nat} (C0 : jC p s args m meth c cc nL own isI D cA B EX adV Ln xs nc0) (hp : jnth pcs i = some (pc, len))
    {H : Heap} {locs : List Loc} {ls : Array Slot} {cells slots : Nat} (hP : va_P D jcls (jws cA B EX h.1) H) (hS : va_S (fun q => B ≤ q) s.heap H locs) (hL : jLok B EX nL L ls) (hc : cells + nc0 = h.2.1) (hs : slots + ns0 = h.2.2.1) (hz : h.2.2.2 = (Ln, xs))
    (hR : h'.2.1 ≤ nc0 + R.cells ∧ h'.2.2.1 ≤ ns0 + R.slots)
    (kk : ∀ (H' : Heap) (locs' : List Loc) (ls' : Array Slot) (cells' slots' : Nat), va_P D jcls (jws cA B EX h'.1) H' → va_S (fun q => B ≤ q) s.heap H' locs' → jLok B EX nL L' ls' → cells' + nc0 = h'.2.1 → slots' + ns0 = h'.2.2.1 → h'.2.2.2 = (Ln, xs) → W p l en R s m args below meth c H' locs' cells' slots' Q (F0 m (jpc pcs pc') ls' (S'.map (jcv B EX)))) (hd : decode cc pc = .ok (.pop, len)) (hn : jnxok pcs pc len nx 1 = true) (hst : jstep (.pop, nx, a, b, v, sw) L S h = some (pc', L', S', h')) : W p l en R s m args below meth c H locs cells slots Q (F0 m (jpc pcs i) ls (S.map (jcv B EX))) := by
  obtain ⟨hx, hb, hml, hown, hin, hts, hK, hBs, hsz, hF, hlk⟩ := C0
  have hpc : jpc pcs i = pc := by simp [jpc, hp]
  rw [hpc]
  unfold jstep at hst
  dsimp only at hst
  obtain ⟨rfl, e1⟩ := jnx_spec hn
  split at hst
  · rename_i x S1
    rw [jcond_ite] at hst
    split at hst
    · rename_i hg
      obtain ⟨rfl, rfl, rfl, rfl⟩ := jsome4 hst
      show W p l en R s m args below meth c H locs cells slots Q (F0 m pc ls (jcv B EX x :: S1.map (jcv B EX)))
      refine lv_pop hx hb hd (by rw [jcv_cat]; exact jcat_1 hg) ?_
      rw [← e1]
      exact kk _ _ _ _ _ hP hS hL hc hs hz
    · cases hst
  · cases hst

set_option maxRecDepth 4000 in
theorem jS_dup2  {pcs : List (Nat × Nat)} {i nx a b : Nat} {v : Value} {sw : List (Int32 × Nat)} {pc len : Nat} {L L' : jL} {S S' : List Value} {h h' : jH} {pc' : Nat} (C0 : jC p s args m meth c cc nL own isI D cA B EX adV Ln xs nc0) (hp : jnth pcs i = some (pc, len))
    {H : Heap} {locs : List Loc} {ls : Array Slot} {cells slots : Nat} (hP : va_P D jcls (jws cA B EX h.1) H) (hS : va_S (fun q => B ≤ q) s.heap H locs) (hL : jLok B EX nL L ls) (hc : cells + nc0 = h.2.1) (hs : slots + ns0 = h.2.2.1) (hz : h.2.2.2 = (Ln, xs))
    (hR : h'.2.1 ≤ nc0 + R.cells ∧ h'.2.2.1 ≤ ns0 + R.slots)
    (kk : ∀ (H' : Heap) (locs' : List Loc) (ls' : Array Slot) (cells' slots' : Nat), va_P D jcls (jws cA B EX h'.1) H' → va_S (fun q => B ≤ q) s.heap H' locs' → jLok B EX nL L' ls' → cells' + nc0 = h'.2.1 → slots' + ns0 = h'.2.2.1 → h'.2.2.2 = (Ln, xs) → W p l en R s m args below meth c H' locs' cells' slots' Q (F0 m (jpc pcs pc') ls' (S'.map (jcv B EX)))) (hd : decode cc pc = .ok (.dup2, len)) (hn : jnxok pcs pc len nx 1 = true) (hst : jstep (.dup2, nx, a, b, v, sw) L S h = some (pc', L', S', h')) : W p l en R s m args below meth c H locs cells slots Q (F0 m (jpc pcs i) ls (S.map (jcv B EX))) := by
  obtain ⟨hx, hb, hml, hown, hin, hts, hK, hBs, hsz, hF, hlk⟩ := C0
  have hpc : jpc pcs i = pc := by simp [jpc, hp]
  rw [hpc]
  unfold jstep at hst
  dsimp only at hst
  obtain ⟨rfl, e1⟩ := jnx_spec hn
  split at hst
  · rename_i x y S1
    rw [jcond_ite] at hst
    split at hst
    · rename_i hg
      simp only [Bool.and_eq_true] at hg
      obtain ⟨rfl, rfl, rfl, rfl⟩ := jsome4 hst
      show W p l en R s m args below meth c H locs cells slots Q (F0 m pc ls (jcv B EX x :: jcv B EX y :: S1.map (jcv B EX)))
      refine lv_dup2_11 hx hb hd (by rw [jcv_cat]; exact jcat_1 hg.1) (by rw [jcv_cat]; exact jcat_1 hg.2) ?_
      rw [← e1]
      exact kk _ _ _ _ _ hP hS hL hc hs hz
    · cases hst
  · cases hst

set_option maxRecDepth 4000 in
theorem jS_iaload  {pcs : List (Nat × Nat)} {i nx a b : Nat} {v : Value} {sw : List (Int32 × Nat)} {pc len : Nat} {L L' : jL} {S S' : List Value} {h h' : jH} {pc' : Nat} (C0 : jC p s args m meth c cc nL own isI D cA B EX adV Ln xs nc0) (hp : jnth pcs i = some (pc, len))
    {H : Heap} {locs : List Loc} {ls : Array Slot} {cells slots : Nat} (hP : va_P D jcls (jws cA B EX h.1) H) (hS : va_S (fun q => B ≤ q) s.heap H locs) (hL : jLok B EX nL L ls) (hc : cells + nc0 = h.2.1) (hs : slots + ns0 = h.2.2.1) (hz : h.2.2.2 = (Ln, xs))
    (hR : h'.2.1 ≤ nc0 + R.cells ∧ h'.2.2.1 ≤ ns0 + R.slots)
    (kk : ∀ (H' : Heap) (locs' : List Loc) (ls' : Array Slot) (cells' slots' : Nat), va_P D jcls (jws cA B EX h'.1) H' → va_S (fun q => B ≤ q) s.heap H' locs' → jLok B EX nL L' ls' → cells' + nc0 = h'.2.1 → slots' + ns0 = h'.2.2.1 → h'.2.2.2 = (Ln, xs) → W p l en R s m args below meth c H' locs' cells' slots' Q (F0 m (jpc pcs pc') ls' (S'.map (jcv B EX)))) (hd : decode cc pc = .ok (.iaload, len)) (hn : jnxok pcs pc len nx 1 = true) (hst : jstep (.iaload, nx, a, b, v, sw) L S h = some (pc', L', S', h')) : W p l en R s m args below meth c H locs cells slots Q (F0 m (jpc pcs i) ls (S.map (jcv B EX))) := by
  obtain ⟨hx, hb, hml, hown, hin, hts, hK, hBs, hsz, hF, hlk⟩ := C0
  have hpc : jpc pcs i = pc := by simp [jpc, hp]
  rw [hpc]
  unfold jstep at hst
  dsimp only at hst
  obtain ⟨rfl, e1⟩ := jnx_spec hn
  split at hst
  · rename_i j r S1
    split at hst
    · rename_i n f hq
      split at hst
      · cases hst
      · rename_i hg
        obtain ⟨rfl, rfl, rfl, rfl⟩ := jsome4 hst
        show W p l en R s m args below meth c H locs cells slots Q (F0 m pc ls (.int j :: .ref (B + r) :: S1.map (jcv B EX)))
        refine va_iald hx hb hK hP r 0 (jws_get hq) rfl hg hd ?_
        rw [← e1]
        exact kk _ _ _ _ _ hP hS hL hc hs hz
    · cases hst
  · rename_i j S1
    split at hst
    · cases hst
    · rename_i hg
      obtain ⟨rfl, rfl, rfl, rfl⟩ := jsome4 hst
      rw [hz] at hg
      rw [hz] at kk
      show W p l en R s m args below meth c H locs cells slots Q (F0 m pc ls (.int j :: .ref (EX 0) :: S1.map (jcv B EX)))
      refine va_sld hx hb hF.1 (Nat.lt_of_lt_of_le hF.2.1 hBs) (Nat.not_le.mpr hF.2.1) hS hg hd ?_
      rw [← e1]
      exact kk _ _ _ _ _ hP hS hL hc hs rfl
  · cases hst

set_option maxRecDepth 4000 in
theorem jS_baload  {pcs : List (Nat × Nat)} {i nx a b : Nat} {v : Value} {sw : List (Int32 × Nat)} {pc len : Nat} {L L' : jL} {S S' : List Value} {h h' : jH} {pc' : Nat} (C0 : jC p s args m meth c cc nL own isI D cA B EX adV Ln xs nc0) (hp : jnth pcs i = some (pc, len))
    {H : Heap} {locs : List Loc} {ls : Array Slot} {cells slots : Nat} (hP : va_P D jcls (jws cA B EX h.1) H) (hS : va_S (fun q => B ≤ q) s.heap H locs) (hL : jLok B EX nL L ls) (hc : cells + nc0 = h.2.1) (hs : slots + ns0 = h.2.2.1) (hz : h.2.2.2 = (Ln, xs))
    (hR : h'.2.1 ≤ nc0 + R.cells ∧ h'.2.2.1 ≤ ns0 + R.slots)
    (kk : ∀ (H' : Heap) (locs' : List Loc) (ls' : Array Slot) (cells' slots' : Nat), va_P D jcls (jws cA B EX h'.1) H' → va_S (fun q => B ≤ q) s.heap H' locs' → jLok B EX nL L' ls' → cells' + nc0 = h'.2.1 → slots' + ns0 = h'.2.2.1 → h'.2.2.2 = (Ln, xs) → W p l en R s m args below meth c H' locs' cells' slots' Q (F0 m (jpc pcs pc') ls' (S'.map (jcv B EX)))) (hd : decode cc pc = .ok (.baload, len)) (hn : jnxok pcs pc len nx 1 = true) (hst : jstep (.baload, nx, a, b, v, sw) L S h = some (pc', L', S', h')) : W p l en R s m args below meth c H locs cells slots Q (F0 m (jpc pcs i) ls (S.map (jcv B EX))) := by
  obtain ⟨hx, hb, hml, hown, hin, hts, hK, hBs, hsz, hF, hlk⟩ := C0
  have hpc : jpc pcs i = pc := by simp [jpc, hp]
  rw [hpc]
  unfold jstep at hst
  dsimp only at hst
  obtain ⟨rfl, e1⟩ := jnx_spec hn
  split at hst
  · rename_i j r S1
    split at hst
    · rename_i n f hq
      split at hst
      · cases hst
      · rename_i hg
        obtain ⟨rfl, rfl, rfl, rfl⟩ := jsome4 hst
        show W p l en R s m args below meth c H locs cells slots Q (F0 m pc ls (.int j :: .ref (B + r) :: S1.map (jcv B EX)))
        refine va_zald hx hb hK hP r 2 (jws_get hq) rfl hg hd ?_
        rw [← e1]
        exact kk _ _ _ _ _ hP hS hL hc hs hz
    · cases hst
  · cases hst

set_option maxRecDepth 4000 in
theorem jS_laload  {pcs : List (Nat × Nat)} {i nx a b : Nat} {v : Value} {sw : List (Int32 × Nat)} {pc len : Nat} {L L' : jL} {S S' : List Value} {h h' : jH} {pc' : Nat} (C0 : jC p s args m meth c cc nL own isI D cA B EX adV Ln xs nc0) (hp : jnth pcs i = some (pc, len))
    {H : Heap} {locs : List Loc} {ls : Array Slot} {cells slots : Nat} (hP : va_P D jcls (jws cA B EX h.1) H) (hS : va_S (fun q => B ≤ q) s.heap H locs) (hL : jLok B EX nL L ls) (hc : cells + nc0 = h.2.1) (hs : slots + ns0 = h.2.2.1) (hz : h.2.2.2 = (Ln, xs))
    (hR : h'.2.1 ≤ nc0 + R.cells ∧ h'.2.2.1 ≤ ns0 + R.slots)
    (kk : ∀ (H' : Heap) (locs' : List Loc) (ls' : Array Slot) (cells' slots' : Nat), va_P D jcls (jws cA B EX h'.1) H' → va_S (fun q => B ≤ q) s.heap H' locs' → jLok B EX nL L' ls' → cells' + nc0 = h'.2.1 → slots' + ns0 = h'.2.2.1 → h'.2.2.2 = (Ln, xs) → W p l en R s m args below meth c H' locs' cells' slots' Q (F0 m (jpc pcs pc') ls' (S'.map (jcv B EX)))) (hd : decode cc pc = .ok (.laload, len)) (hn : jnxok pcs pc len nx 1 = true) (hst : jstep (.laload, nx, a, b, v, sw) L S h = some (pc', L', S', h')) : W p l en R s m args below meth c H locs cells slots Q (F0 m (jpc pcs i) ls (S.map (jcv B EX))) := by
  obtain ⟨hx, hb, hml, hown, hin, hts, hK, hBs, hsz, hF, hlk⟩ := C0
  have hpc : jpc pcs i = pc := by simp [jpc, hp]
  rw [hpc]
  unfold jstep at hst
  dsimp only at hst
  obtain ⟨rfl, e1⟩ := jnx_spec hn
  split at hst
  · rename_i j r S1
    split at hst
    · rename_i n f hq
      split at hst
      · cases hst
      · rename_i hg
        obtain ⟨rfl, rfl, rfl, rfl⟩ := jsome4 hst
        show W p l en R s m args below meth c H locs cells slots Q (F0 m pc ls (.int j :: .ref (B + r) :: S1.map (jcv B EX)))
        refine va_lald hx hb hK hP r 1 (jws_get hq) rfl hg hd ?_
        rw [← e1]
        exact kk _ _ _ _ _ hP hS hL hc hs hz
    · cases hst
  · cases hst

set_option maxRecDepth 4000 in
theorem jS_iastore  {pcs : List (Nat × Nat)} {i nx a b : Nat} {v : Value} {sw : List (Int32 × Nat)} {pc len : Nat} {L L' : jL} {S S' : List Value} {h h' : jH} {pc' : Nat} (C0 : jC p s args m meth c cc nL own isI D cA B EX adV Ln xs nc0) (hp : jnth pcs i = some (pc, len))
    {H : Heap} {locs : List Loc} {ls : Array Slot} {cells slots : Nat} (hP : va_P D jcls (jws cA B EX h.1) H) (hS : va_S (fun q => B ≤ q) s.heap H locs) (hL : jLok B EX nL L ls) (hc : cells + nc0 = h.2.1) (hs : slots + ns0 = h.2.2.1) (hz : h.2.2.2 = (Ln, xs))
    (hR : h'.2.1 ≤ nc0 + R.cells ∧ h'.2.2.1 ≤ ns0 + R.slots)
    (kk : ∀ (H' : Heap) (locs' : List Loc) (ls' : Array Slot) (cells' slots' : Nat), va_P D jcls (jws cA B EX h'.1) H' → va_S (fun q => B ≤ q) s.heap H' locs' → jLok B EX nL L' ls' → cells' + nc0 = h'.2.1 → slots' + ns0 = h'.2.2.1 → h'.2.2.2 = (Ln, xs) → W p l en R s m args below meth c H' locs' cells' slots' Q (F0 m (jpc pcs pc') ls' (S'.map (jcv B EX)))) (hd : decode cc pc = .ok (.iastore, len)) (hn : jnxok pcs pc len nx 1 = true) (hst : jstep (.iastore, nx, a, b, v, sw) L S h = some (pc', L', S', h')) : W p l en R s m args below meth c H locs cells slots Q (F0 m (jpc pcs i) ls (S.map (jcv B EX))) := by
  obtain ⟨hx, hb, hml, hown, hin, hts, hK, hBs, hsz, hF, hlk⟩ := C0
  have hpc : jpc pcs i = pc := by simp [jpc, hp]
  rw [hpc]
  unfold jstep at hst
  dsimp only at hst
  obtain ⟨rfl, e1⟩ := jnx_spec hn
  split at hst
  · rename_i x j r S1
    split at hst
    · rename_i n f hq
      split at hst
      · cases hst
      · rename_i hg
        obtain ⟨rfl, rfl, rfl, rfl⟩ := jsome4 hst
        show W p l en R s m args below meth c H locs cells slots Q (F0 m pc ls (.int x :: .int j :: .ref (B + r) :: S1.map (jcv B EX)))
        refine va_iast hx hb hK hP jws_D hS r 0 (jws_get hq) rfl hg hd (fun H1 locs1 hP1 _ hS1 => ?_)
        rw [← e1]
        exact kk _ _ _ _ _ (by have h9 := hP1; rw [jce_iset 0] at h9; exact h9) hS1 hL hc hs hz
    · cases hst
  · cases hst

set_option maxRecDepth 4000 in
theorem jS_bastore  {pcs : List (Nat × Nat)} {i nx a b : Nat} {v : Value} {sw : List (Int32 × Nat)} {pc len : Nat} {L L' : jL} {S S' : List Value} {h h' : jH} {pc' : Nat} (C0 : jC p s args m meth c cc nL own isI D cA B EX adV Ln xs nc0) (hp : jnth pcs i = some (pc, len))
    {H : Heap} {locs : List Loc} {ls : Array Slot} {cells slots : Nat} (hP : va_P D jcls (jws cA B EX h.1) H) (hS : va_S (fun q => B ≤ q) s.heap H locs) (hL : jLok B EX nL L ls) (hc : cells + nc0 = h.2.1) (hs : slots + ns0 = h.2.2.1) (hz : h.2.2.2 = (Ln, xs))
    (hR : h'.2.1 ≤ nc0 + R.cells ∧ h'.2.2.1 ≤ ns0 + R.slots)
    (kk : ∀ (H' : Heap) (locs' : List Loc) (ls' : Array Slot) (cells' slots' : Nat), va_P D jcls (jws cA B EX h'.1) H' → va_S (fun q => B ≤ q) s.heap H' locs' → jLok B EX nL L' ls' → cells' + nc0 = h'.2.1 → slots' + ns0 = h'.2.2.1 → h'.2.2.2 = (Ln, xs) → W p l en R s m args below meth c H' locs' cells' slots' Q (F0 m (jpc pcs pc') ls' (S'.map (jcv B EX)))) (hd : decode cc pc = .ok (.bastore, len)) (hn : jnxok pcs pc len nx 1 = true) (hst : jstep (.bastore, nx, a, b, v, sw) L S h = some (pc', L', S', h')) : W p l en R s m args below meth c H locs cells slots Q (F0 m (jpc pcs i) ls (S.map (jcv B EX))) := by
  obtain ⟨hx, hb, hml, hown, hin, hts, hK, hBs, hsz, hF, hlk⟩ := C0
  have hpc : jpc pcs i = pc := by simp [jpc, hp]
  rw [hpc]
  unfold jstep at hst
  dsimp only at hst
  obtain ⟨rfl, e1⟩ := jnx_spec hn
  split at hst
  · rename_i x j r S1
    split at hst
    · rename_i n f hq
      split at hst
      · cases hst
      · rename_i hg
        obtain ⟨rfl, rfl, rfl, rfl⟩ := jsome4 hst
        show W p l en R s m args below meth c H locs cells slots Q (F0 m pc ls (.int x :: .int j :: .ref (B + r) :: S1.map (jcv B EX)))
        refine va_zast hx hb hK hP jws_D hS r 2 (jws_get hq) rfl hg hd (fun H1 locs1 hP1 _ hS1 => ?_)
        rw [← e1]
        exact kk _ _ _ _ _ (by have h9 := hP1; rw [jce_iset 2] at h9; exact h9) hS1 hL hc hs hz
    · cases hst
  · cases hst

set_option maxRecDepth 4000 in
theorem jS_lastore  {pcs : List (Nat × Nat)} {i nx a b : Nat} {v : Value} {sw : List (Int32 × Nat)} {pc len : Nat} {L L' : jL} {S S' : List Value} {h h' : jH} {pc' : Nat} (C0 : jC p s args m meth c cc nL own isI D cA B EX adV Ln xs nc0) (hp : jnth pcs i = some (pc, len))
    {H : Heap} {locs : List Loc} {ls : Array Slot} {cells slots : Nat} (hP : va_P D jcls (jws cA B EX h.1) H) (hS : va_S (fun q => B ≤ q) s.heap H locs) (hL : jLok B EX nL L ls) (hc : cells + nc0 = h.2.1) (hs : slots + ns0 = h.2.2.1) (hz : h.2.2.2 = (Ln, xs))
    (hR : h'.2.1 ≤ nc0 + R.cells ∧ h'.2.2.1 ≤ ns0 + R.slots)
    (kk : ∀ (H' : Heap) (locs' : List Loc) (ls' : Array Slot) (cells' slots' : Nat), va_P D jcls (jws cA B EX h'.1) H' → va_S (fun q => B ≤ q) s.heap H' locs' → jLok B EX nL L' ls' → cells' + nc0 = h'.2.1 → slots' + ns0 = h'.2.2.1 → h'.2.2.2 = (Ln, xs) → W p l en R s m args below meth c H' locs' cells' slots' Q (F0 m (jpc pcs pc') ls' (S'.map (jcv B EX)))) (hd : decode cc pc = .ok (.lastore, len)) (hn : jnxok pcs pc len nx 1 = true) (hst : jstep (.lastore, nx, a, b, v, sw) L S h = some (pc', L', S', h')) : W p l en R s m args below meth c H locs cells slots Q (F0 m (jpc pcs i) ls (S.map (jcv B EX))) := by
  obtain ⟨hx, hb, hml, hown, hin, hts, hK, hBs, hsz, hF, hlk⟩ := C0
  have hpc : jpc pcs i = pc := by simp [jpc, hp]
  rw [hpc]
  unfold jstep at hst
  dsimp only at hst
  obtain ⟨rfl, e1⟩ := jnx_spec hn
  split at hst
  · rename_i x j r S1
    split at hst
    · rename_i n f hq
      split at hst
      · cases hst
      · rename_i hg
        obtain ⟨rfl, rfl, rfl, rfl⟩ := jsome4 hst
        show W p l en R s m args below meth c H locs cells slots Q (F0 m pc ls (.long x :: .int j :: .ref (B + r) :: S1.map (jcv B EX)))
        refine va_last hx hb hK hP jws_D hS r 1 (jws_get hq) rfl hg hd (fun H1 locs1 hP1 _ hS1 => ?_)
        rw [← e1]
        exact kk _ _ _ _ _ (by have h9 := hP1; rw [jce_lset 1] at h9; exact h9) hS1 hL hc hs hz
    · cases hst
  · cases hst

set_option maxRecDepth 4000 in
theorem jS_aaload  {pcs : List (Nat × Nat)} {i nx a b : Nat} {v : Value} {sw : List (Int32 × Nat)} {pc len : Nat} {L L' : jL} {S S' : List Value} {h h' : jH} {pc' : Nat} (C0 : jC p s args m meth c cc nL own isI D cA B EX adV Ln xs nc0) (hp : jnth pcs i = some (pc, len))
    {H : Heap} {locs : List Loc} {ls : Array Slot} {cells slots : Nat} (hP : va_P D jcls (jws cA B EX h.1) H) (hS : va_S (fun q => B ≤ q) s.heap H locs) (hL : jLok B EX nL L ls) (hc : cells + nc0 = h.2.1) (hs : slots + ns0 = h.2.2.1) (hz : h.2.2.2 = (Ln, xs))
    (hR : h'.2.1 ≤ nc0 + R.cells ∧ h'.2.2.1 ≤ ns0 + R.slots)
    (kk : ∀ (H' : Heap) (locs' : List Loc) (ls' : Array Slot) (cells' slots' : Nat), va_P D jcls (jws cA B EX h'.1) H' → va_S (fun q => B ≤ q) s.heap H' locs' → jLok B EX nL L' ls' → cells' + nc0 = h'.2.1 → slots' + ns0 = h'.2.2.1 → h'.2.2.2 = (Ln, xs) → W p l en R s m args below meth c H' locs' cells' slots' Q (F0 m (jpc pcs pc') ls' (S'.map (jcv B EX)))) (hd : decode cc pc = .ok (.aaload, len)) (hn : jnxok pcs pc len nx 1 = true) (hst : jstep (.aaload, nx, a, b, v, sw) L S h = some (pc', L', S', h')) : W p l en R s m args below meth c H locs cells slots Q (F0 m (jpc pcs i) ls (S.map (jcv B EX))) := by
  obtain ⟨hx, hb, hml, hown, hin, hts, hK, hBs, hsz, hF, hlk⟩ := C0
  have hpc : jpc pcs i = pc := by simp [jpc, hp]
  rw [hpc]
  unfold jstep at hst
  dsimp only at hst
  obtain ⟨rfl, e1⟩ := jnx_spec hn
  split at hst
  · rename_i j r S1
    split at hst
    · rename_i n f hq
      split at hst
      · cases hst
      · rename_i hg
        split at hst
        · rename_i q hfq
          obtain ⟨rfl, rfl, rfl, rfl⟩ := jsome4 hst
          show W p l en R s m args below meth c H locs cells slots Q (F0 m pc ls (.int j :: .ref (B + r) :: S1.map (jcv B EX)))
          refine va_aldq hx hb hK hP r 3 (jws_get hq) rfl hg hd ?_
          rw [← e1]
          have h9 := kk _ _ _ _ _ hP hS hL hc hs hz
          simp only [hfq, Option.map_some, va_rf]
          exact h9
        · cases hst
    · cases hst
  · cases hst

set_option maxRecDepth 4000 in
theorem jS_aastore  {pcs : List (Nat × Nat)} {i nx a b : Nat} {v : Value} {sw : List (Int32 × Nat)} {pc len : Nat} {L L' : jL} {S S' : List Value} {h h' : jH} {pc' : Nat} (C0 : jC p s args m meth c cc nL own isI D cA B EX adV Ln xs nc0) (hp : jnth pcs i = some (pc, len))
    {H : Heap} {locs : List Loc} {ls : Array Slot} {cells slots : Nat} (hP : va_P D jcls (jws cA B EX h.1) H) (hS : va_S (fun q => B ≤ q) s.heap H locs) (hL : jLok B EX nL L ls) (hc : cells + nc0 = h.2.1) (hs : slots + ns0 = h.2.2.1) (hz : h.2.2.2 = (Ln, xs))
    (hR : h'.2.1 ≤ nc0 + R.cells ∧ h'.2.2.1 ≤ ns0 + R.slots)
    (kk : ∀ (H' : Heap) (locs' : List Loc) (ls' : Array Slot) (cells' slots' : Nat), va_P D jcls (jws cA B EX h'.1) H' → va_S (fun q => B ≤ q) s.heap H' locs' → jLok B EX nL L' ls' → cells' + nc0 = h'.2.1 → slots' + ns0 = h'.2.2.1 → h'.2.2.2 = (Ln, xs) → W p l en R s m args below meth c H' locs' cells' slots' Q (F0 m (jpc pcs pc') ls' (S'.map (jcv B EX)))) (hd : decode cc pc = .ok (.aastore, len)) (hn : jnxok pcs pc len nx 1 = true) (hst : jstep (.aastore, nx, a, b, v, sw) L S h = some (pc', L', S', h')) : W p l en R s m args below meth c H locs cells slots Q (F0 m (jpc pcs i) ls (S.map (jcv B EX))) := by
  obtain ⟨hx, hb, hml, hown, hin, hts, hK, hBs, hsz, hF, hlk⟩ := C0
  have hpc : jpc pcs i = pc := by simp [jpc, hp]
  rw [hpc]
  unfold jstep at hst
  dsimp only at hst
  obtain ⟨rfl, e1⟩ := jnx_spec hn
  split at hst
  · rename_i q j r S1
    split at hst
    · rename_i n f vs hq hv
      split at hst
      · cases hst
      · rename_i hg
        obtain ⟨rfl, rfl, rfl, rfl⟩ := jsome4 hst
        show W p l en R s m args below meth c H locs cells slots Q (F0 m pc ls (.ref (B + q) :: .int j :: .ref (B + r) :: S1.map (jcv B EX)))
        refine va_astq hx hb hK hP jws_D hS r 3 q 1 (jws_get hq) (r := jclsn 1) rfl (jws_get hv) rfl hg hd (fun H1 locs1 hP1 _ hS1 => ?_)
        rw [← e1]
        exact kk _ _ _ _ _ (by have h9 := hP1; rw [jce_qset 3] at h9; exact h9) hS1 hL hc hs hz
    · cases hst
  · cases hst

set_option maxRecDepth 4000 in
theorem jS_arraylength  {pcs : List (Nat × Nat)} {i nx a b : Nat} {v : Value} {sw : List (Int32 × Nat)} {pc len : Nat} {L L' : jL} {S S' : List Value} {h h' : jH} {pc' : Nat} (C0 : jC p s args m meth c cc nL own isI D cA B EX adV Ln xs nc0) (hp : jnth pcs i = some (pc, len))
    {H : Heap} {locs : List Loc} {ls : Array Slot} {cells slots : Nat} (hP : va_P D jcls (jws cA B EX h.1) H) (hS : va_S (fun q => B ≤ q) s.heap H locs) (hL : jLok B EX nL L ls) (hc : cells + nc0 = h.2.1) (hs : slots + ns0 = h.2.2.1) (hz : h.2.2.2 = (Ln, xs))
    (hR : h'.2.1 ≤ nc0 + R.cells ∧ h'.2.2.1 ≤ ns0 + R.slots)
    (kk : ∀ (H' : Heap) (locs' : List Loc) (ls' : Array Slot) (cells' slots' : Nat), va_P D jcls (jws cA B EX h'.1) H' → va_S (fun q => B ≤ q) s.heap H' locs' → jLok B EX nL L' ls' → cells' + nc0 = h'.2.1 → slots' + ns0 = h'.2.2.1 → h'.2.2.2 = (Ln, xs) → W p l en R s m args below meth c H' locs' cells' slots' Q (F0 m (jpc pcs pc') ls' (S'.map (jcv B EX)))) (hd : decode cc pc = .ok (.arraylength, len)) (hn : jnxok pcs pc len nx 1 = true) (hst : jstep (.arraylength, nx, a, b, v, sw) L S h = some (pc', L', S', h')) : W p l en R s m args below meth c H locs cells slots Q (F0 m (jpc pcs i) ls (S.map (jcv B EX))) := by
  obtain ⟨hx, hb, hml, hown, hin, hts, hK, hBs, hsz, hF, hlk⟩ := C0
  have hpc : jpc pcs i = pc := by simp [jpc, hp]
  rw [hpc]
  unfold jstep at hst
  dsimp only at hst
  obtain ⟨rfl, e1⟩ := jnx_spec hn
  split at hst
  · rename_i r S1
    split at hst
    · rename_i t x hq
      rw [jcond_ite] at hst
      split at hst
      · rename_i htt
        obtain ⟨rfl, rfl, rfl, rfl⟩ := jsome4 hst
        show W p l en R s m args below meth c H locs cells slots Q (F0 m pc ls (.ref (B + r) :: S1.map (jcv B EX)))
        obtain ⟨ty, hty⟩ : ∃ ty, (jtys cA)[t]? = some (cA t, ty) := jtys_at (by simpa using htt)
        refine va_alen hx hb hK hP r t (jws_get hq) hty (by rw [jca_len]) hd ?_
        rw [← e1]
        exact kk _ _ _ _ _ hP hS hL hc hs hz
      · cases hst
    · cases hst
  · rename_i S1
    obtain ⟨rfl, rfl, rfl, rfl⟩ := jsome4 hst
    rw [hz] at kk
    show W p l en R s m args below meth c H locs cells slots Q (F0 m pc ls (.ref (EX 0) :: S1.map (jcv B EX)))
    refine va_slen hx hb hF.1 (Nat.lt_of_lt_of_le hF.2.1 hBs) (Nat.not_le.mpr hF.2.1) hS hd ?_
    rw [← e1]
    exact kk _ _ _ _ _ hP hS hL hc hs rfl
  · cases hst

set_option maxRecDepth 4000 in
theorem jS_getfield {k : Nat} {pcs : List (Nat × Nat)} {i nx a b : Nat} {v : Value} {sw : List (Int32 × Nat)} {pc len : Nat} {L L' : jL} {S S' : List Value} {h h' : jH} {pc' : Nat} (C0 : jC p s args m meth c cc nL own isI D cA B EX adV Ln xs nc0) (hp : jnth pcs i = some (pc, len))
    {H : Heap} {locs : List Loc} {ls : Array Slot} {cells slots : Nat} (hP : va_P D jcls (jws cA B EX h.1) H) (hS : va_S (fun q => B ≤ q) s.heap H locs) (hL : jLok B EX nL L ls) (hc : cells + nc0 = h.2.1) (hs : slots + ns0 = h.2.2.1) (hz : h.2.2.2 = (Ln, xs))
    (hR : h'.2.1 ≤ nc0 + R.cells ∧ h'.2.2.1 ≤ ns0 + R.slots)
    (kk : ∀ (H' : Heap) (locs' : List Loc) (ls' : Array Slot) (cells' slots' : Nat), va_P D jcls (jws cA B EX h'.1) H' → va_S (fun q => B ≤ q) s.heap H' locs' → jLok B EX nL L' ls' → cells' + nc0 = h'.2.1 → slots' + ns0 = h'.2.2.1 → h'.2.2.2 = (Ln, xs) → W p l en R s m args below meth c H' locs' cells' slots' Q (F0 m (jpc pcs pc') ls' (S'.map (jcv B EX)))) (hd : decode cc pc = .ok (.getfield k, len)) (hm : (own, k, b, a) ∈ jlf) (hN : a < (jclsn b).2.2) (hb12 : b < 12) (hdecl : ((jclsn b).2.1 a).1 = (jclsn b).1) (hn : jnxok pcs pc len nx 3 = true) (hst : jstep (.getfield k, nx, a, b, v, sw) L S h = some (pc', L', S', h')) : W p l en R s m args below meth c H locs cells slots Q (F0 m (jpc pcs i) ls (S.map (jcv B EX))) := by
  obtain ⟨hx, hb, hml, hown, hin, hts, hK, hBs, hsz, hF, hlk⟩ := C0
  have hpc : jpc pcs i = pc := by simp [jpc, hp]
  rw [hpc]
  unfold jstep at hst
  dsimp only at hst
  obtain ⟨rfl, e1⟩ := jnx_spec hn
  split at hst
  · rename_i r S1
    split at hst
    · rename_i c1 fs hq
      rw [jcond_ite] at hst
      split at hst
      · rename_i hcb
        have hcb := Nat.eq_of_beq_eq_true hcb
        subst hcb
        split at hst
        · rename_i x hxx
          obtain ⟨rfl, rfl, rfl, rfl⟩ := jsome4 hst
          obtain ⟨g1, g2, -⟩ := jCls_all hb12
          show W p l en R s m args below meth c H locs cells slots Q (F0 m pc ls (.ref (B + r) :: S1.map (jcv B EX)))
          refine va_get (C := (jclsn c1).1) (T := (jclsn c1).2.1) (N := (jclsn c1).2.2) hx hb hts g2 hown hK hP r (jws_get hq) g1 a hN (hts _ (jGm (jlf_ok _ hm) rfl)) (fun _ h9 => by rw [hdecl] at h9; exact h9) (v := jcv B EX x) (by rw [List.getElem?_map, ← jnth_eq, hxx]; rfl) hd ?_
          rw [← e1]
          exact kk _ _ _ _ _ hP hS hL hc hs hz
        · cases hst
      · cases hst
    · cases hst
  · cases hst

set_option maxRecDepth 4000 in
theorem jS_puti {k : Nat} {pcs : List (Nat × Nat)} {i nx a b : Nat} {v : Value} {sw : List (Int32 × Nat)} {pc len : Nat} {L L' : jL} {S S' : List Value} {h h' : jH} {pc' : Nat} (C0 : jC p s args m meth c cc nL own isI D cA B EX adV Ln xs nc0) (hp : jnth pcs i = some (pc, len))
    {H : Heap} {locs : List Loc} {ls : Array Slot} {cells slots : Nat} (hP : va_P D jcls (jws cA B EX h.1) H) (hS : va_S (fun q => B ≤ q) s.heap H locs) (hL : jLok B EX nL L ls) (hc : cells + nc0 = h.2.1) (hs : slots + ns0 = h.2.2.1) (hz : h.2.2.2 = (Ln, xs))
    (hR : h'.2.1 ≤ nc0 + R.cells ∧ h'.2.2.1 ≤ ns0 + R.slots)
    (kk : ∀ (H' : Heap) (locs' : List Loc) (ls' : Array Slot) (cells' slots' : Nat), va_P D jcls (jws cA B EX h'.1) H' → va_S (fun q => B ≤ q) s.heap H' locs' → jLok B EX nL L' ls' → cells' + nc0 = h'.2.1 → slots' + ns0 = h'.2.2.1 → h'.2.2.2 = (Ln, xs) → W p l en R s m args below meth c H' locs' cells' slots' Q (F0 m (jpc pcs pc') ls' (S'.map (jcv B EX)))) (hd : decode cc pc = .ok (.putfield k, len)) (hm : (own, k, b, a) ∈ jlf) (hN : a < (jclsn b).2.2) (hb12 : b < 12) (hdecl : ((jclsn b).2.1 a).1 = (jclsn b).1) (hfi : ((jclsn b).2.1 a).2.2.2 = true → isI = true ∧ ((jclsn b).2.1 a).1 = jown.getD own "") (hv : v = .int 0) (hty : parseFieldDescriptor ((jclsn b).2.1 a).2.2.1 = some .int) (hn : jnxok pcs pc len nx 3 = true) (hst : jstep (.putfield k, nx, a, b, v, sw) L S h = some (pc', L', S', h')) : W p l en R s m args below meth c H locs cells slots Q (F0 m (jpc pcs i) ls (S.map (jcv B EX))) := by
  obtain ⟨hx, hb, hml, hown, hin, hts, hK, hBs, hsz, hF, hlk⟩ := C0
  have hpc : jpc pcs i = pc := by simp [jpc, hp]
  rw [hpc]
  unfold jstep at hst
  dsimp only at hst
  obtain ⟨rfl, e1⟩ := jnx_spec hn
  subst hv
  split at hst
  · rename_i x0 r S1
    split at hst
    · rename_i c1 fs hq
      rw [jcond_ite] at hst
      split at hst
      · rename_i hcb
        simp only [Bool.and_eq_true] at hcb
        obtain ⟨hcb, hlt⟩ := hcb
        have hcb := Nat.eq_of_beq_eq_true hcb
        have hlt : a < fs.length := Nat.le_of_ble_eq_true hlt
        subst hcb
        cases x0 with
        | int y =>
          obtain ⟨rfl, rfl, rfl, rfl⟩ := jsome4 hst
          obtain ⟨g1, g2, ⟨ty, g3, -⟩, g4, -⟩ := jCls_all hb12
          show W p l en R s m args below meth c H locs cells slots Q (F0 m pc ls (.int y :: .ref (B + r) :: S1.map (jcv B EX)))
          have hl2 : a < (fs.map (jcv B EX)).length := by rw [List.length_map]; exact hlt
          by_cases hfin : ((jclsn c1).2.1 a).2.2.2 = true
          · obtain ⟨hI, hd2⟩ := hfi hfin
            refine va_putF (C := (jclsn c1).1) (T := (jclsn c1).2.1) (N := (jclsn c1).2.2) (v := .int y) hx hb hts g2 ty g3 g4 hown hK hP jws_D hS r (jws_get hq) g1 a hN (hts _ (jGm (jlf_ok _ hm) rfl)) (fun _ h9 => by rw [hdecl] at h9; exact h9) hfin (hin hI) hd2 hty rfl rfl hl2 hd (fun H1 locs1 hP1 _ hS1 => ?_)
            rw [← e1]
            exact kk _ _ _ _ _ (by show va_P D jcls (jws cA B EX (h.1.set r (.inr (c1, fs.set a (.int y))))) H1; rw [← jce_fset]; exact hP1) hS1 hL hc hs hz
          · refine va_put (C := (jclsn c1).1) (T := (jclsn c1).2.1) (N := (jclsn c1).2.2) (v := .int y) hx hb hts g2 ty g3 g4 hown hK hP jws_D hS r (jws_get hq) g1 a hN (hts _ (jGm (jlf_ok _ hm) rfl)) (fun _ h9 => by rw [hdecl] at h9; exact h9) (by simpa using hfin) hty rfl rfl hl2 hd (fun H1 locs1 hP1 _ hS1 => ?_)
            rw [← e1]
            exact kk _ _ _ _ _ (by show va_P D jcls (jws cA B EX (h.1.set r (.inr (c1, fs.set a (.int y))))) H1; rw [← jce_fset]; exact hP1) hS1 hL hc hs hz
        | _ => cases hst
      · cases hst
    · cases hst
  · cases hst

set_option maxRecDepth 4000 in
theorem jS_putz {k : Nat} {pcs : List (Nat × Nat)} {i nx a b : Nat} {v : Value} {sw : List (Int32 × Nat)} {pc len : Nat} {L L' : jL} {S S' : List Value} {h h' : jH} {pc' : Nat} (C0 : jC p s args m meth c cc nL own isI D cA B EX adV Ln xs nc0) (hp : jnth pcs i = some (pc, len))
    {H : Heap} {locs : List Loc} {ls : Array Slot} {cells slots : Nat} (hP : va_P D jcls (jws cA B EX h.1) H) (hS : va_S (fun q => B ≤ q) s.heap H locs) (hL : jLok B EX nL L ls) (hc : cells + nc0 = h.2.1) (hs : slots + ns0 = h.2.2.1) (hz : h.2.2.2 = (Ln, xs))
    (hR : h'.2.1 ≤ nc0 + R.cells ∧ h'.2.2.1 ≤ ns0 + R.slots)
    (kk : ∀ (H' : Heap) (locs' : List Loc) (ls' : Array Slot) (cells' slots' : Nat), va_P D jcls (jws cA B EX h'.1) H' → va_S (fun q => B ≤ q) s.heap H' locs' → jLok B EX nL L' ls' → cells' + nc0 = h'.2.1 → slots' + ns0 = h'.2.2.1 → h'.2.2.2 = (Ln, xs) → W p l en R s m args below meth c H' locs' cells' slots' Q (F0 m (jpc pcs pc') ls' (S'.map (jcv B EX)))) (hd : decode cc pc = .ok (.putfield k, len)) (hm : (own, k, b, a) ∈ jlf) (hN : a < (jclsn b).2.2) (hb12 : b < 12) (hdecl : ((jclsn b).2.1 a).1 = (jclsn b).1) (hfi : ((jclsn b).2.1 a).2.2.2 = true → isI = true ∧ ((jclsn b).2.1 a).1 = jown.getD own "") (hv : v = .int 1) (hty : parseFieldDescriptor ((jclsn b).2.1 a).2.2.1 = some .boolean) (hn : jnxok pcs pc len nx 3 = true) (hst : jstep (.putfield k, nx, a, b, v, sw) L S h = some (pc', L', S', h')) : W p l en R s m args below meth c H locs cells slots Q (F0 m (jpc pcs i) ls (S.map (jcv B EX))) := by
  obtain ⟨hx, hb, hml, hown, hin, hts, hK, hBs, hsz, hF, hlk⟩ := C0
  have hpc : jpc pcs i = pc := by simp [jpc, hp]
  rw [hpc]
  unfold jstep at hst
  dsimp only at hst
  obtain ⟨rfl, e1⟩ := jnx_spec hn
  subst hv
  split at hst
  · rename_i x0 r S1
    split at hst
    · rename_i c1 fs hq
      rw [jcond_ite] at hst
      split at hst
      · rename_i hcb
        simp only [Bool.and_eq_true] at hcb
        obtain ⟨hcb, hlt⟩ := hcb
        have hcb := Nat.eq_of_beq_eq_true hcb
        have hlt : a < fs.length := Nat.le_of_ble_eq_true hlt
        subst hcb
        cases x0 with
        | int y =>
          obtain ⟨hg, hst⟩ := jite_some hst
          obtain ⟨rfl, rfl, rfl, rfl⟩ := jsome4 hst
          obtain ⟨g1, g2, ⟨ty, g3, -⟩, g4, -⟩ := jCls_all hb12
          show W p l en R s m args below meth c H locs cells slots Q (F0 m pc ls (.int y :: .ref (B + r) :: S1.map (jcv B EX)))
          have hl2 : a < (fs.map (jcv B EX)).length := by rw [List.length_map]; exact hlt
          by_cases hfin : ((jclsn c1).2.1 a).2.2.2 = true
          · obtain ⟨hI, hd2⟩ := hfi hfin
            refine va_putF (C := (jclsn c1).1) (T := (jclsn c1).2.1) (N := (jclsn c1).2.2) (v := .int y) hx hb hts g2 ty g3 g4 hown hK hP jws_D hS r (jws_get hq) g1 a hN (hts _ (jGm (jlf_ok _ hm) rfl)) (fun _ h9 => by rw [hdecl] at h9; exact h9) hfin (hin hI) hd2 hty (jz_narrow hg) (jz_fits hg) hl2 hd (fun H1 locs1 hP1 _ hS1 => ?_)
            rw [← e1]
            exact kk _ _ _ _ _ (by show va_P D jcls (jws cA B EX (h.1.set r (.inr (c1, fs.set a (.int y))))) H1; rw [← jce_fset]; exact hP1) hS1 hL hc hs hz
          · refine va_put (C := (jclsn c1).1) (T := (jclsn c1).2.1) (N := (jclsn c1).2.2) (v := .int y) hx hb hts g2 ty g3 g4 hown hK hP jws_D hS r (jws_get hq) g1 a hN (hts _ (jGm (jlf_ok _ hm) rfl)) (fun _ h9 => by rw [hdecl] at h9; exact h9) (by simpa using hfin) hty (jz_narrow hg) (jz_fits hg) hl2 hd (fun H1 locs1 hP1 _ hS1 => ?_)
            rw [← e1]
            exact kk _ _ _ _ _ (by show va_P D jcls (jws cA B EX (h.1.set r (.inr (c1, fs.set a (.int y))))) H1; rw [← jce_fset]; exact hP1) hS1 hL hc hs hz
        | _ => cases hst
      · cases hst
    · cases hst
  · cases hst

set_option maxRecDepth 4000 in
theorem jS_putl {k : Nat} {pcs : List (Nat × Nat)} {i nx a b : Nat} {v : Value} {sw : List (Int32 × Nat)} {pc len : Nat} {L L' : jL} {S S' : List Value} {h h' : jH} {pc' : Nat} (C0 : jC p s args m meth c cc nL own isI D cA B EX adV Ln xs nc0) (hp : jnth pcs i = some (pc, len))
    {H : Heap} {locs : List Loc} {ls : Array Slot} {cells slots : Nat} (hP : va_P D jcls (jws cA B EX h.1) H) (hS : va_S (fun q => B ≤ q) s.heap H locs) (hL : jLok B EX nL L ls) (hc : cells + nc0 = h.2.1) (hs : slots + ns0 = h.2.2.1) (hz : h.2.2.2 = (Ln, xs))
    (hR : h'.2.1 ≤ nc0 + R.cells ∧ h'.2.2.1 ≤ ns0 + R.slots)
    (kk : ∀ (H' : Heap) (locs' : List Loc) (ls' : Array Slot) (cells' slots' : Nat), va_P D jcls (jws cA B EX h'.1) H' → va_S (fun q => B ≤ q) s.heap H' locs' → jLok B EX nL L' ls' → cells' + nc0 = h'.2.1 → slots' + ns0 = h'.2.2.1 → h'.2.2.2 = (Ln, xs) → W p l en R s m args below meth c H' locs' cells' slots' Q (F0 m (jpc pcs pc') ls' (S'.map (jcv B EX)))) (hd : decode cc pc = .ok (.putfield k, len)) (hm : (own, k, b, a) ∈ jlf) (hN : a < (jclsn b).2.2) (hb12 : b < 12) (hdecl : ((jclsn b).2.1 a).1 = (jclsn b).1) (hfi : ((jclsn b).2.1 a).2.2.2 = true → isI = true ∧ ((jclsn b).2.1 a).1 = jown.getD own "") (hv : v = .int 2) (hty : parseFieldDescriptor ((jclsn b).2.1 a).2.2.1 = some .long) (hn : jnxok pcs pc len nx 3 = true) (hst : jstep (.putfield k, nx, a, b, v, sw) L S h = some (pc', L', S', h')) : W p l en R s m args below meth c H locs cells slots Q (F0 m (jpc pcs i) ls (S.map (jcv B EX))) := by
  obtain ⟨hx, hb, hml, hown, hin, hts, hK, hBs, hsz, hF, hlk⟩ := C0
  have hpc : jpc pcs i = pc := by simp [jpc, hp]
  rw [hpc]
  unfold jstep at hst
  dsimp only at hst
  obtain ⟨rfl, e1⟩ := jnx_spec hn
  subst hv
  split at hst
  · rename_i x0 r S1
    split at hst
    · rename_i c1 fs hq
      rw [jcond_ite] at hst
      split at hst
      · rename_i hcb
        simp only [Bool.and_eq_true] at hcb
        obtain ⟨hcb, hlt⟩ := hcb
        have hcb := Nat.eq_of_beq_eq_true hcb
        have hlt : a < fs.length := Nat.le_of_ble_eq_true hlt
        subst hcb
        cases x0 with
        | long y =>
          obtain ⟨rfl, rfl, rfl, rfl⟩ := jsome4 hst
          obtain ⟨g1, g2, ⟨ty, g3, -⟩, g4, -⟩ := jCls_all hb12
          show W p l en R s m args below meth c H locs cells slots Q (F0 m pc ls (.long y :: .ref (B + r) :: S1.map (jcv B EX)))
          have hl2 : a < (fs.map (jcv B EX)).length := by rw [List.length_map]; exact hlt
          by_cases hfin : ((jclsn c1).2.1 a).2.2.2 = true
          · obtain ⟨hI, hd2⟩ := hfi hfin
            refine va_putF (C := (jclsn c1).1) (T := (jclsn c1).2.1) (N := (jclsn c1).2.2) (v := .long y) hx hb hts g2 ty g3 g4 hown hK hP jws_D hS r (jws_get hq) g1 a hN (hts _ (jGm (jlf_ok _ hm) rfl)) (fun _ h9 => by rw [hdecl] at h9; exact h9) hfin (hin hI) hd2 hty rfl rfl hl2 hd (fun H1 locs1 hP1 _ hS1 => ?_)
            rw [← e1]
            exact kk _ _ _ _ _ (by show va_P D jcls (jws cA B EX (h.1.set r (.inr (c1, fs.set a (.long y))))) H1; rw [← jce_fset]; exact hP1) hS1 hL hc hs hz
          · refine va_put (C := (jclsn c1).1) (T := (jclsn c1).2.1) (N := (jclsn c1).2.2) (v := .long y) hx hb hts g2 ty g3 g4 hown hK hP jws_D hS r (jws_get hq) g1 a hN (hts _ (jGm (jlf_ok _ hm) rfl)) (fun _ h9 => by rw [hdecl] at h9; exact h9) (by simpa using hfin) hty rfl rfl hl2 hd (fun H1 locs1 hP1 _ hS1 => ?_)
            rw [← e1]
            exact kk _ _ _ _ _ (by show va_P D jcls (jws cA B EX (h.1.set r (.inr (c1, fs.set a (.long y))))) H1; rw [← jce_fset]; exact hP1) hS1 hL hc hs hz
        | _ => cases hst
      · cases hst
    · cases hst
  · cases hst

set_option maxRecDepth 4000 in
theorem jS_putr {k : Nat} {ty0 : FieldType} {pcs : List (Nat × Nat)} {i nx a b : Nat} {v : Value} {sw : List (Int32 × Nat)} {pc len : Nat} {L L' : jL} {S S' : List Value} {h h' : jH} {pc' : Nat} (C0 : jC p s args m meth c cc nL own isI D cA B EX adV Ln xs nc0) (hp : jnth pcs i = some (pc, len))
    {H : Heap} {locs : List Loc} {ls : Array Slot} {cells slots : Nat} (hP : va_P D jcls (jws cA B EX h.1) H) (hS : va_S (fun q => B ≤ q) s.heap H locs) (hL : jLok B EX nL L ls) (hc : cells + nc0 = h.2.1) (hs : slots + ns0 = h.2.2.1) (hz : h.2.2.2 = (Ln, xs))
    (hR : h'.2.1 ≤ nc0 + R.cells ∧ h'.2.2.1 ≤ ns0 + R.slots)
    (kk : ∀ (H' : Heap) (locs' : List Loc) (ls' : Array Slot) (cells' slots' : Nat), va_P D jcls (jws cA B EX h'.1) H' → va_S (fun q => B ≤ q) s.heap H' locs' → jLok B EX nL L' ls' → cells' + nc0 = h'.2.1 → slots' + ns0 = h'.2.2.1 → h'.2.2.2 = (Ln, xs) → W p l en R s m args below meth c H' locs' cells' slots' Q (F0 m (jpc pcs pc') ls' (S'.map (jcv B EX)))) (hd : decode cc pc = .ok (.putfield k, len)) (hm : (own, k, b, a) ∈ jlf) (hN : a < (jclsn b).2.2) (hb12 : b < 12) (hdecl : ((jclsn b).2.1 a).1 = (jclsn b).1) (hfi : ((jclsn b).2.1 a).2.2.2 = true → isI = true ∧ ((jclsn b).2.1 a).1 = jown.getD own "") (hv : v = .int 3) (hty : parseFieldDescriptor ((jclsn b).2.1 a).2.2.1 = some ty0) (hob : (∃ n, ty0 = .object n) ∨ ∃ t, ty0 = .array t) (hn : jnxok pcs pc len nx 3 = true) (hst : jstep (.putfield k, nx, a, b, v, sw) L S h = some (pc', L', S', h')) : W p l en R s m args below meth c H locs cells slots Q (F0 m (jpc pcs i) ls (S.map (jcv B EX))) := by
  obtain ⟨hx, hb, hml, hown, hin, hts, hK, hBs, hsz, hF, hlk⟩ := C0
  have hpc : jpc pcs i = pc := by simp [jpc, hp]
  rw [hpc]
  unfold jstep at hst
  dsimp only at hst
  obtain ⟨rfl, e1⟩ := jnx_spec hn
  subst hv
  split at hst
  · rename_i x0 r S1
    split at hst
    · rename_i c1 fs hq
      rw [jcond_ite] at hst
      split at hst
      · rename_i hcb
        simp only [Bool.and_eq_true] at hcb
        obtain ⟨hcb, hlt⟩ := hcb
        have hcb := Nat.eq_of_beq_eq_true hcb
        have hlt : a < fs.length := Nat.le_of_ble_eq_true hlt
        subst hcb
        cases x0 with
        | ref y =>
          obtain ⟨rfl, rfl, rfl, rfl⟩ := jsome4 hst
          obtain ⟨g1, g2, ⟨ty, g3, -⟩, g4, -⟩ := jCls_all hb12
          show W p l en R s m args below meth c H locs cells slots Q (F0 m pc ls (.ref (B + y) :: .ref (B + r) :: S1.map (jcv B EX)))
          have hl2 : a < (fs.map (jcv B EX)).length := by rw [List.length_map]; exact hlt
          by_cases hfin : ((jclsn c1).2.1 a).2.2.2 = true
          · obtain ⟨hI, hd2⟩ := hfi hfin
            refine va_putF (C := (jclsn c1).1) (T := (jclsn c1).2.1) (N := (jclsn c1).2.2) (v := .ref (B + y)) hx hb hts g2 ty g3 g4 hown hK hP jws_D hS r (jws_get hq) g1 a hN (hts _ (jGm (jlf_ok _ hm) rfl)) (fun _ h9 => by rw [hdecl] at h9; exact h9) hfin (hin hI) hd2 hty (jr_narrow hob) (jr_fits hob) hl2 hd (fun H1 locs1 hP1 _ hS1 => ?_)
            rw [← e1]
            exact kk _ _ _ _ _ (by show va_P D jcls (jws cA B EX (h.1.set r (.inr (c1, fs.set a (.ref y))))) H1; rw [← jce_fset]; exact hP1) hS1 hL hc hs hz
          · refine va_put (C := (jclsn c1).1) (T := (jclsn c1).2.1) (N := (jclsn c1).2.2) (v := .ref (B + y)) hx hb hts g2 ty g3 g4 hown hK hP jws_D hS r (jws_get hq) g1 a hN (hts _ (jGm (jlf_ok _ hm) rfl)) (fun _ h9 => by rw [hdecl] at h9; exact h9) (by simpa using hfin) hty (jr_narrow hob) (jr_fits hob) hl2 hd (fun H1 locs1 hP1 _ hS1 => ?_)
            rw [← e1]
            exact kk _ _ _ _ _ (by show va_P D jcls (jws cA B EX (h.1.set r (.inr (c1, fs.set a (.ref y))))) H1; rw [← jce_fset]; exact hP1) hS1 hL hc hs hz
        | _ => cases hst
      · cases hst
    · cases hst
  · cases hst

set_option maxRecDepth 4000 in
theorem jS_new {k : Nat} {pcs : List (Nat × Nat)} {i nx a b : Nat} {v : Value} {sw : List (Int32 × Nat)} {pc len : Nat} {L L' : jL} {S S' : List Value} {h h' : jH} {pc' : Nat} (C0 : jC p s args m meth c cc nL own isI D cA B EX adV Ln xs nc0) (hp : jnth pcs i = some (pc, len))
    {H : Heap} {locs : List Loc} {ls : Array Slot} {cells slots : Nat} (hP : va_P D jcls (jws cA B EX h.1) H) (hS : va_S (fun q => B ≤ q) s.heap H locs) (hL : jLok B EX nL L ls) (hc : cells + nc0 = h.2.1) (hs : slots + ns0 = h.2.2.1) (hz : h.2.2.2 = (Ln, xs))
    (hR : h'.2.1 ≤ nc0 + R.cells ∧ h'.2.2.1 ≤ ns0 + R.slots)
    (kk : ∀ (H' : Heap) (locs' : List Loc) (ls' : Array Slot) (cells' slots' : Nat), va_P D jcls (jws cA B EX h'.1) H' → va_S (fun q => B ≤ q) s.heap H' locs' → jLok B EX nL L' ls' → cells' + nc0 = h'.2.1 → slots' + ns0 = h'.2.2.1 → h'.2.2.2 = (Ln, xs) → W p l en R s m args below meth c H' locs' cells' slots' Q (F0 m (jpc pcs pc') ls' (S'.map (jcv B EX)))) (hd : decode cc pc = .ok (.new k, len)) (hm : (own, k, a) ∈ jlc) (hbN : b = (jclsn a).2.2) (ha12 : a < 12) (hn : jnxok pcs pc len nx 3 = true) (hst : jstep (.new k, nx, a, b, v, sw) L S h = some (pc', L', S', h')) : W p l en R s m args below meth c H locs cells slots Q (F0 m (jpc pcs i) ls (S.map (jcv B EX))) := by
  obtain ⟨hx, hb, hml, hown, hin, hts, hK, hBs, hsz, hF, hlk⟩ := C0
  have hpc : jpc pcs i = pc := by simp [jpc, hp]
  rw [hpc]
  unfold jstep at hst
  dsimp only at hst
  obtain ⟨rfl, e1⟩ := jnx_spec hn
  subst hbN
  split at hst
  · rename_i fs hfs
    rw [jcond_ite] at hst
    split at hst
    · rename_i hlen
      obtain ⟨rfl, rfl, rfl, rfl⟩ := jsome4 hst
      have hlen := Nat.eq_of_beq_eq_true hlen
      obtain ⟨g1, g2, ⟨ty, g3, ⟨fs2, g5, g6, g7⟩⟩, g4, g8, g9⟩ := jCls_all ha12
      cases hfs.symm.trans g5
      show W p l en R s m args below meth c H locs cells slots Q (F0 m pc ls (S.map (jcv B EX)))
      refine va_new (ci := a) (fs := fs) (C := (jclsn a).1) (T := (jclsn a).2.1) (N := (jclsn a).2.2) hx hb hts g2 ty g3 hown (hts _ (jGm (jlc_ok _ hm) rfl)) (hts _ g8) (hts _ g9) hK hP jws_D hS (fun q hq => Nat.le_trans hBs hq) g1 g6 (by dsimp only at hR; omega) (by dsimp only at hR; omega) hd (fun q H1 hP1 hD1 hS1 => ?_)
      refine W.bnd (fun hsz1 => ?_)
      have hq : q = B + h.1.length := jnew_at hP1 hD1 hsz1 hsz hlen hc
      subst hq
      rw [← e1]
      refine kk _ _ _ _ _ ?_ hS1 hL (by dsimp only; omega) (by dsimp only; omega) hz
      dsimp only
      rw [jws_app]
      have h8 : jce cA B EX (.inr (a, fs)) = .inr (a, fs) := by show Sum.inr (a, fs.map (jcv B EX)) = _; rw [jplain g7]
      rw [h8]
      exact hP1
    · cases hst
  · cases hst

set_option maxRecDepth 4000 in
theorem jS_newa_int  {pcs : List (Nat × Nat)} {i nx a b : Nat} {v : Value} {sw : List (Int32 × Nat)} {pc len : Nat} {L L' : jL} {S S' : List Value} {h h' : jH} {pc' : Nat} (C0 : jC p s args m meth c cc nL own isI D cA B EX adV Ln xs nc0) (hp : jnth pcs i = some (pc, len))
    {H : Heap} {locs : List Loc} {ls : Array Slot} {cells slots : Nat} (hP : va_P D jcls (jws cA B EX h.1) H) (hS : va_S (fun q => B ≤ q) s.heap H locs) (hL : jLok B EX nL L ls) (hc : cells + nc0 = h.2.1) (hs : slots + ns0 = h.2.2.1) (hz : h.2.2.2 = (Ln, xs))
    (hR : h'.2.1 ≤ nc0 + R.cells ∧ h'.2.2.1 ≤ ns0 + R.slots)
    (kk : ∀ (H' : Heap) (locs' : List Loc) (ls' : Array Slot) (cells' slots' : Nat), va_P D jcls (jws cA B EX h'.1) H' → va_S (fun q => B ≤ q) s.heap H' locs' → jLok B EX nL L' ls' → cells' + nc0 = h'.2.1 → slots' + ns0 = h'.2.2.1 → h'.2.2.2 = (Ln, xs) → W p l en R s m args below meth c H' locs' cells' slots' Q (F0 m (jpc pcs pc') ls' (S'.map (jcv B EX)))) (hd : decode cc pc = .ok (.newarray .int, len)) (hn : jnxok pcs pc len nx 2 = true) (hst : jstep (.newarray .int, nx, a, b, v, sw) L S h = some (pc', L', S', h')) : W p l en R s m args below meth c H locs cells slots Q (F0 m (jpc pcs i) ls (S.map (jcv B EX))) := by
  obtain ⟨hx, hb, hml, hown, hin, hts, hK, hBs, hsz, hF, hlk⟩ := C0
  have hpc : jpc pcs i = pc := by simp [jpc, hp]
  rw [hpc]
  unfold jstep at hst
  dsimp only at hst
  obtain ⟨rfl, e1⟩ := jnx_spec hn
  split at hst
  · rename_i n S1
    split at hst
    · cases hst
    · rename_i hg
      rw [jcond_ite] at hst
      split at hst
      · rename_i hlen
        obtain ⟨rfl, rfl, rfl, rfl⟩ := jsome4 hst
        have hlen := Nat.eq_of_beq_eq_true hlen
        have hg1 : ¬ n < 0 := fun q => hg (Or.inl q)
        have hg2 : n.toNatClampNeg ≤ 65536 := Nat.le_of_not_lt fun q => hg (Or.inr q)
        show W p l en R s m args below meth c H locs cells slots Q (F0 m pc ls (.int n :: S1.map (jcv B EX)))
        refine va_newa (atype := .int) (ty := .int) (a0 := (n.toNatClampNeg, .inl fun _ => 0)) hx hb (hts _ jarr_int) rfl hK hP jws_D hS (fun q hq => Nat.le_trans hBs hq) (fun cA => rfl) hg1 rfl (by show n.toNatClampNeg * 4 ≤ 536870912; omega) (by dsimp only at hR; omega) (by dsimp only at hR; omega) hd (fun q cA2 H1 hK1 hP1 hD1 hS1 => ?_)
        refine W.bnd (fun hsz1 => ?_)
        have hq : q = B + h.1.length := jnew_at hP1 hD1 hsz1 hsz hlen hc
        subst hq
        have hcA : cA2 = cA 0 := jtag_eq hK hK1 0 rfl
        subst hcA
        rw [← e1]
        refine kk _ _ _ _ _ ?_ hS1 hL (by dsimp only; omega) (by dsimp only; omega) hz
        dsimp only
        rw [jws_app]
        exact hP1
      · cases hst
  · cases hst

set_option maxRecDepth 4000 in
theorem jS_newa_long  {pcs : List (Nat × Nat)} {i nx a b : Nat} {v : Value} {sw : List (Int32 × Nat)} {pc len : Nat} {L L' : jL} {S S' : List Value} {h h' : jH} {pc' : Nat} (C0 : jC p s args m meth c cc nL own isI D cA B EX adV Ln xs nc0) (hp : jnth pcs i = some (pc, len))
    {H : Heap} {locs : List Loc} {ls : Array Slot} {cells slots : Nat} (hP : va_P D jcls (jws cA B EX h.1) H) (hS : va_S (fun q => B ≤ q) s.heap H locs) (hL : jLok B EX nL L ls) (hc : cells + nc0 = h.2.1) (hs : slots + ns0 = h.2.2.1) (hz : h.2.2.2 = (Ln, xs))
    (hR : h'.2.1 ≤ nc0 + R.cells ∧ h'.2.2.1 ≤ ns0 + R.slots)
    (kk : ∀ (H' : Heap) (locs' : List Loc) (ls' : Array Slot) (cells' slots' : Nat), va_P D jcls (jws cA B EX h'.1) H' → va_S (fun q => B ≤ q) s.heap H' locs' → jLok B EX nL L' ls' → cells' + nc0 = h'.2.1 → slots' + ns0 = h'.2.2.1 → h'.2.2.2 = (Ln, xs) → W p l en R s m args below meth c H' locs' cells' slots' Q (F0 m (jpc pcs pc') ls' (S'.map (jcv B EX)))) (hd : decode cc pc = .ok (.newarray .long, len)) (hn : jnxok pcs pc len nx 2 = true) (hst : jstep (.newarray .long, nx, a, b, v, sw) L S h = some (pc', L', S', h')) : W p l en R s m args below meth c H locs cells slots Q (F0 m (jpc pcs i) ls (S.map (jcv B EX))) := by
  obtain ⟨hx, hb, hml, hown, hin, hts, hK, hBs, hsz, hF, hlk⟩ := C0
  have hpc : jpc pcs i = pc := by simp [jpc, hp]
  rw [hpc]
  unfold jstep at hst
  dsimp only at hst
  obtain ⟨rfl, e1⟩ := jnx_spec hn
  split at hst
  · rename_i n S1
    split at hst
    · cases hst
    · rename_i hg
      rw [jcond_ite] at hst
      split at hst
      · rename_i hlen
        obtain ⟨rfl, rfl, rfl, rfl⟩ := jsome4 hst
        have hlen := Nat.eq_of_beq_eq_true hlen
        have hg1 : ¬ n < 0 := fun q => hg (Or.inl q)
        have hg2 : n.toNatClampNeg ≤ 65536 := Nat.le_of_not_lt fun q => hg (Or.inr q)
        show W p l en R s m args below meth c H locs cells slots Q (F0 m pc ls (.int n :: S1.map (jcv B EX)))
        refine va_newa (atype := .long) (ty := .long) (a0 := (n.toNatClampNeg, .inr (.inl fun _ => 0))) hx hb (hts _ jarr_long) rfl hK hP jws_D hS (fun q hq => Nat.le_trans hBs hq) (fun cA => rfl) hg1 rfl (by show n.toNatClampNeg * 8 ≤ 536870912; omega) (by dsimp only at hR; omega) (by dsimp only at hR; omega) hd (fun q cA2 H1 hK1 hP1 hD1 hS1 => ?_)
        refine W.bnd (fun hsz1 => ?_)
        have hq : q = B + h.1.length := jnew_at hP1 hD1 hsz1 hsz hlen hc
        subst hq
        have hcA : cA2 = cA 1 := jtag_eq hK hK1 1 rfl
        subst hcA
        rw [← e1]
        refine kk _ _ _ _ _ ?_ hS1 hL (by dsimp only; omega) (by dsimp only; omega) hz
        dsimp only
        rw [jws_app]
        exact hP1
      · cases hst
  · cases hst

set_option maxRecDepth 4000 in
theorem jS_newa_boolean  {pcs : List (Nat × Nat)} {i nx a b : Nat} {v : Value} {sw : List (Int32 × Nat)} {pc len : Nat} {L L' : jL} {S S' : List Value} {h h' : jH} {pc' : Nat} (C0 : jC p s args m meth c cc nL own isI D cA B EX adV Ln xs nc0) (hp : jnth pcs i = some (pc, len))
    {H : Heap} {locs : List Loc} {ls : Array Slot} {cells slots : Nat} (hP : va_P D jcls (jws cA B EX h.1) H) (hS : va_S (fun q => B ≤ q) s.heap H locs) (hL : jLok B EX nL L ls) (hc : cells + nc0 = h.2.1) (hs : slots + ns0 = h.2.2.1) (hz : h.2.2.2 = (Ln, xs))
    (hR : h'.2.1 ≤ nc0 + R.cells ∧ h'.2.2.1 ≤ ns0 + R.slots)
    (kk : ∀ (H' : Heap) (locs' : List Loc) (ls' : Array Slot) (cells' slots' : Nat), va_P D jcls (jws cA B EX h'.1) H' → va_S (fun q => B ≤ q) s.heap H' locs' → jLok B EX nL L' ls' → cells' + nc0 = h'.2.1 → slots' + ns0 = h'.2.2.1 → h'.2.2.2 = (Ln, xs) → W p l en R s m args below meth c H' locs' cells' slots' Q (F0 m (jpc pcs pc') ls' (S'.map (jcv B EX)))) (hd : decode cc pc = .ok (.newarray .boolean, len)) (hn : jnxok pcs pc len nx 2 = true) (hst : jstep (.newarray .boolean, nx, a, b, v, sw) L S h = some (pc', L', S', h')) : W p l en R s m args below meth c H locs cells slots Q (F0 m (jpc pcs i) ls (S.map (jcv B EX))) := by
  obtain ⟨hx, hb, hml, hown, hin, hts, hK, hBs, hsz, hF, hlk⟩ := C0
  have hpc : jpc pcs i = pc := by simp [jpc, hp]
  rw [hpc]
  unfold jstep at hst
  dsimp only at hst
  obtain ⟨rfl, e1⟩ := jnx_spec hn
  split at hst
  · rename_i n S1
    split at hst
    · cases hst
    · rename_i hg
      rw [jcond_ite] at hst
      split at hst
      · rename_i hlen
        obtain ⟨rfl, rfl, rfl, rfl⟩ := jsome4 hst
        have hlen := Nat.eq_of_beq_eq_true hlen
        have hg1 : ¬ n < 0 := fun q => hg (Or.inl q)
        have hg2 : n.toNatClampNeg ≤ 65536 := Nat.le_of_not_lt fun q => hg (Or.inr q)
        show W p l en R s m args below meth c H locs cells slots Q (F0 m pc ls (.int n :: S1.map (jcv B EX)))
        refine va_newa (atype := .boolean) (ty := .boolean) (a0 := (n.toNatClampNeg, .inl fun _ => 0)) hx hb (hts _ jarr_boolean) rfl hK hP jws_D hS (fun q hq => Nat.le_trans hBs hq) (fun cA => rfl) hg1 rfl (by show n.toNatClampNeg * 1 ≤ 536870912; omega) (by dsimp only at hR; omega) (by dsimp only at hR; omega) hd (fun q cA2 H1 hK1 hP1 hD1 hS1 => ?_)
        refine W.bnd (fun hsz1 => ?_)
        have hq : q = B + h.1.length := jnew_at hP1 hD1 hsz1 hsz hlen hc
        subst hq
        have hcA : cA2 = cA 2 := jtag_eq hK hK1 2 rfl
        subst hcA
        rw [← e1]
        refine kk _ _ _ _ _ ?_ hS1 hL (by dsimp only; omega) (by dsimp only; omega) hz
        dsimp only
        rw [jws_app]
        exact hP1
      · cases hst
  · cases hst

set_option maxRecDepth 4000 in
theorem jS_anewarray {k : Nat} {pcs : List (Nat × Nat)} {i nx a b : Nat} {v : Value} {sw : List (Int32 × Nat)} {pc len : Nat} {L L' : jL} {S S' : List Value} {h h' : jH} {pc' : Nat} (C0 : jC p s args m meth c cc nL own isI D cA B EX adV Ln xs nc0) (hp : jnth pcs i = some (pc, len))
    {H : Heap} {locs : List Loc} {ls : Array Slot} {cells slots : Nat} (hP : va_P D jcls (jws cA B EX h.1) H) (hS : va_S (fun q => B ≤ q) s.heap H locs) (hL : jLok B EX nL L ls) (hc : cells + nc0 = h.2.1) (hs : slots + ns0 = h.2.2.1) (hz : h.2.2.2 = (Ln, xs))
    (hR : h'.2.1 ≤ nc0 + R.cells ∧ h'.2.2.1 ≤ ns0 + R.slots)
    (kk : ∀ (H' : Heap) (locs' : List Loc) (ls' : Array Slot) (cells' slots' : Nat), va_P D jcls (jws cA B EX h'.1) H' → va_S (fun q => B ≤ q) s.heap H' locs' → jLok B EX nL L' ls' → cells' + nc0 = h'.2.1 → slots' + ns0 = h'.2.2.1 → h'.2.2.2 = (Ln, xs) → W p l en R s m args below meth c H' locs' cells' slots' Q (F0 m (jpc pcs pc') ls' (S'.map (jcv B EX)))) (hd : decode cc pc = .ok (.anewarray k, len)) (hm : (own, k, 1) ∈ jlc) (hn : jnxok pcs pc len nx 3 = true) (hst : jstep (.anewarray k, nx, a, b, v, sw) L S h = some (pc', L', S', h')) : W p l en R s m args below meth c H locs cells slots Q (F0 m (jpc pcs i) ls (S.map (jcv B EX))) := by
  obtain ⟨hx, hb, hml, hown, hin, hts, hK, hBs, hsz, hF, hlk⟩ := C0
  have hpc : jpc pcs i = pc := by simp [jpc, hp]
  rw [hpc]
  unfold jstep at hst
  dsimp only at hst
  obtain ⟨rfl, e1⟩ := jnx_spec hn
  split at hst
  · rename_i n S1
    split at hst
    · cases hst
    · rename_i hg
      rw [jcond_ite] at hst
      split at hst
      · rename_i hlen
        obtain ⟨rfl, rfl, rfl, rfl⟩ := jsome4 hst
        have hlen := Nat.eq_of_beq_eq_true hlen
        have hg1 : ¬ n < 0 := fun q => hg (Or.inl q)
        have hg2 : n.toNatClampNeg ≤ 65536 := Nat.le_of_not_lt fun q => hg (Or.inr q)
        show W p l en R s m args below meth c H locs cells slots Q (F0 m pc ls (.int n :: S1.map (jcv B EX)))
        refine va_newq (C := "CrowRota$Law") hx hb hown (hts _ (jGm (jlc_ok _ hm) rfl)) hF.2.2.1 hK hP jws_D hS (fun q hq => Nat.le_trans hBs hq) hg1 rfl (by omega) (by dsimp only at hR; omega) (by dsimp only at hR; omega) hd (fun q cA2 H1 hK1 hP1 hD1 hS1 => ?_)
        refine W.bnd (fun hsz1 => ?_)
        have hq : q = B + h.1.length := jnew_at hP1 hD1 hsz1 hsz hlen hc
        subst hq
        have hcA : cA2 = cA 3 := jtag_eq hK hK1 3 rfl
        subst hcA
        rw [← e1]
        refine kk _ _ _ _ _ ?_ hS1 hL (by dsimp only; omega) (by dsimp only; omega) hz
        dsimp only
        rw [jws_app]
        exact hP1
      · cases hst
  · cases hst

set_option maxRecDepth 4000 in
theorem jS_table {d lo hi : Int} {offs : Array Int} {pcs : List (Nat × Nat)} {i nx a b : Nat} {v : Value} {sw : List (Int32 × Nat)} {pc len : Nat} {L L' : jL} {S S' : List Value} {h h' : jH} {pc' : Nat} (C0 : jC p s args m meth c cc nL own isI D cA B EX adV Ln xs nc0) (hp : jnth pcs i = some (pc, len))
    {H : Heap} {locs : List Loc} {ls : Array Slot} {cells slots : Nat} (hP : va_P D jcls (jws cA B EX h.1) H) (hS : va_S (fun q => B ≤ q) s.heap H locs) (hL : jLok B EX nL L ls) (hc : cells + nc0 = h.2.1) (hs : slots + ns0 = h.2.2.1) (hz : h.2.2.2 = (Ln, xs))
    (hR : h'.2.1 ≤ nc0 + R.cells ∧ h'.2.2.1 ≤ ns0 + R.slots)
    (kk : ∀ (H' : Heap) (locs' : List Loc) (ls' : Array Slot) (cells' slots' : Nat), va_P D jcls (jws cA B EX h'.1) H' → va_S (fun q => B ≤ q) s.heap H' locs' → jLok B EX nL L' ls' → cells' + nc0 = h'.2.1 → slots' + ns0 = h'.2.2.1 → h'.2.2.2 = (Ln, xs) → W p l en R s m args below meth c H' locs' cells' slots' Q (F0 m (jpc pcs pc') ls' (S'.map (jcv B EX)))) (hd : decode cc pc = .ok (.tableswitch d lo hi offs, len)) (ht : jtgt pcs pc a d = true) (hsw : jswt pcs pc lo offs.toList sw = true) (hhi : hi = lo + offs.size - 1) (hst : jstep (.tableswitch d lo hi offs, nx, a, b, v, sw) L S h = some (pc', L', S', h')) : W p l en R s m args below meth c H locs cells slots Q (F0 m (jpc pcs i) ls (S.map (jcv B EX))) := by
  obtain ⟨hx, hb, hml, hown, hin, hts, hK, hBs, hsz, hF, hlk⟩ := C0
  have hpc : jpc pcs i = pc := by simp [jpc, hp]
  rw [hpc]
  unfold jstep at hst
  dsimp only at hst
  split at hst
  · rename_i x S1
    obtain ⟨rfl, rfl, rfl, rfl⟩ := jsome4 hst
    show W p l en R s m args below meth c H locs cells slots Q (F0 m pc ls (.int x :: S1.map (jcv B EX)))
    obtain ⟨g1, g2⟩ := jswt_spec (d := a) (x := x) hsw
    rw [Array.length_toList] at g1 g2
    by_cases hx1 : x.toInt < lo ∨ hi < x.toInt
    · refine lv_tableOut hx hb hd hx1 (jtg_spec ht) ?_
      have h9 := kk _ _ _ _ _ hP hS hL hc hs hz
      rw [g2 (by omega)] at h9
      exact h9
    · obtain ⟨t, off, h1, h2, h3⟩ := g1 (by omega) (by omega)
      refine lv_tableIn hx hb hd (fun q => hx1 (Or.inl q)) (fun q => hx1 (Or.inr q)) (off := off) (by rw [← Array.getElem?_toList]; exact h2) h3 ?_
      have h9 := kk _ _ _ _ _ hP hS hL hc hs hz
      rw [h1] at h9
      exact h9
  · cases hst

set_option maxRecDepth 4000 in
theorem jS_lookup {d : Int} {ps : Array (Int × Int)} {pcs : List (Nat × Nat)} {i nx a b : Nat} {v : Value} {sw : List (Int32 × Nat)} {pc len : Nat} {L L' : jL} {S S' : List Value} {h h' : jH} {pc' : Nat} (C0 : jC p s args m meth c cc nL own isI D cA B EX adV Ln xs nc0) (hp : jnth pcs i = some (pc, len))
    {H : Heap} {locs : List Loc} {ls : Array Slot} {cells slots : Nat} (hP : va_P D jcls (jws cA B EX h.1) H) (hS : va_S (fun q => B ≤ q) s.heap H locs) (hL : jLok B EX nL L ls) (hc : cells + nc0 = h.2.1) (hs : slots + ns0 = h.2.2.1) (hz : h.2.2.2 = (Ln, xs))
    (hR : h'.2.1 ≤ nc0 + R.cells ∧ h'.2.2.1 ≤ ns0 + R.slots)
    (kk : ∀ (H' : Heap) (locs' : List Loc) (ls' : Array Slot) (cells' slots' : Nat), va_P D jcls (jws cA B EX h'.1) H' → va_S (fun q => B ≤ q) s.heap H' locs' → jLok B EX nL L' ls' → cells' + nc0 = h'.2.1 → slots' + ns0 = h'.2.2.1 → h'.2.2.2 = (Ln, xs) → W p l en R s m args below meth c H' locs' cells' slots' Q (F0 m (jpc pcs pc') ls' (S'.map (jcv B EX)))) (hd : decode cc pc = .ok (.lookupswitch d ps, len)) (ht : jtgt pcs pc a d = true) (hsw : jlks pcs pc ps.toList sw = true) (hord : (ps.toList.zip (ps.toList.drop 1)).all (fun (a, next) => a.1 < next.1) = true) (hst : jstep (.lookupswitch d ps, nx, a, b, v, sw) L S h = some (pc', L', S', h')) : W p l en R s m args below meth c H locs cells slots Q (F0 m (jpc pcs i) ls (S.map (jcv B EX))) := by
  obtain ⟨hx, hb, hml, hown, hin, hts, hK, hBs, hsz, hF, hlk⟩ := C0
  have hpc : jpc pcs i = pc := by simp [jpc, hp]
  rw [hpc]
  unfold jstep at hst
  dsimp only at hst
  split at hst
  · rename_i x S1
    obtain ⟨rfl, rfl, rfl, rfl⟩ := jsome4 hst
    show W p l en R s m args below meth c H locs cells slots Q (F0 m pc ls (.int x :: S1.map (jcv B EX)))
    refine lv_lookup hx hb hd hord rfl (jlks_spec (d := a) (x := x) (jtg_spec ht) hsw) ?_
    exact kk _ _ _ _ _ hP hS hL hc hs hz
  · cases hst

end JST

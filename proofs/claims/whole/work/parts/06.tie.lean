/-! How a state of the small machine is held by the real one. -/
def dz_cv (ad ob : Nat → Nat) : dz_V → Value
  | .inl x => .int (Int32.ofInt x)
  | .inr (.inl x) => .long (Int64.ofInt x)
  | .inr (.inr (.inl q)) => .ref (ad q)
  | .inr (.inr (.inr o)) => .ref (ob o)
def dz_okV (n : Nat) : dz_V → Prop
  | .inl x => dz_in32 x
  | .inr (.inl x) => dz_in64 x
  | .inr (.inr (.inl q)) => q < n
  | .inr (.inr (.inr o)) => o < 3
def dz_ro (ad : Nat → Nat) : Nat → Option Nat
  | 0 => none
  | r + 1 => some (ad r)
def dz_fv (ad : Nat → Nat) (t r : Nat) (x : Int) : Value := match t with
  | 0 => .int (Int32.ofInt x)
  | 1 => .long (Int64.ofInt x)
  | 2 => va_rf (dz_ro ad r)
  | _ => .int (Int32.ofInt x)
def dz_av (ad : Nat → Nat) (t n : Nat) (rf : Nat → Nat) (M : Nat → Int) : vp_A := (n, match t with
  | 0 => .inl (fun k => Int32.ofInt (M k))
  | 1 => .inr (.inl (fun k => Int64.ofInt (M k)))
  | 2 => .inl (fun k => Int32.ofInt (M k))
  | _ => .inr (.inr (.inr (.inr (fun k => dz_ro ad (rf k))))))
def dz_ce (aC : Nat → ClassId) (ad : Nat → Nat) (g : dz_G) (q : Nat) : va_E := match g.1[q]? with
  | some (.inl ci) => .inr (ci, (List.range (dz_nf ci)).map (fun k => dz_fv ad (dz_ft ci k) (g.2.1 q k) (g.2.2 q k)))
  | some (.inr (t, n)) => .inl (aC t, dz_av ad t n (g.2.1 q) (g.2.2 q))
  | none => .inr (0, [])
def dz_ws (aC : Nat → ClassId) (ad : Nat → Nat) (g : dz_G) : va_W := (List.range g.1.length).map (fun q => (ad q, dz_ce aC ad g q))
/-- what always holds of a state of the small machine -/
def dz_okG (g : dz_G) : Prop := (∀ q k, g.2.1 q k ≤ g.1.length) ∧ (∀ q k, dz_in64 (g.2.2 q k)) ∧ (∀ q k ci : Nat, g.1[q]? = some (Sum.inl ci) → dz_ft ci k ≠ 1 → dz_in32 (g.2.2 q k)) ∧ (∀ q t n : Nat, g.1[q]? = some (Sum.inr (t, n)) → (t ≠ 1 → ∀ k, dz_in32 (g.2.2 q k)) ∧ n < 2147483648 ∧ t < 6) ∧ (∀ q ci : Nat, g.1[q]? = some (Sum.inl ci) → ci < 7)
theorem dz_ws_get {aC : Nat → ClassId} {ad : Nat → Nat} {g : dz_G} {q : Nat} (h : q < g.1.length) : (dz_ws aC ad g)[q]? = some (ad q, dz_ce aC ad g q) := by
  unfold dz_ws
  rw [List.getElem?_map, List.getElem?_range h]
  rfl
theorem dz_ws_len {aC : Nat → ClassId} {ad : Nat → Nat} {g : dz_G} : (dz_ws aC ad g).length = g.1.length := by simp [dz_ws]
theorem dz_lt {g : dz_G} {q : Nat} {x : Nat ⊕ (Nat × Nat)} (h : g.1[q]? = some x) : q < g.1.length := (List.getElem?_eq_some_iff.mp h).1
theorem dz_ce_o {aC : Nat → ClassId} {ad : Nat → Nat} {g : dz_G} {q ci : Nat} (h : g.1[q]? = some (.inl ci)) : dz_ce aC ad g q = .inr (ci, (List.range (dz_nf ci)).map (fun k => dz_fv ad (dz_ft ci k) (g.2.1 q k) (g.2.2 q k))) := by
  unfold dz_ce
  rw [h]
theorem dz_ce_a {aC : Nat → ClassId} {ad : Nat → Nat} {g : dz_G} {q t n : Nat} (h : g.1[q]? = some (.inr (t, n))) : dz_ce aC ad g q = .inl (aC t, dz_av ad t n (g.2.1 q) (g.2.2 q)) := by
  unfold dz_ce
  rw [h]
/-- one cell is another -/
theorem dz_ws_set {aC : Nat → ClassId} {ad : Nat → Nat} {g g' : dz_G} {q : Nat} {ev : va_E} (hs : g'.1 = g.1) (he : dz_ce aC ad g' q = ev) (ho : ∀ q', q' ≠ q → dz_ce aC ad g' q' = dz_ce aC ad g q') (hq : q < g.1.length) : (dz_ws aC ad g).set q (ad q, ev) = dz_ws aC ad g' := by
  apply List.ext_getElem?
  intro k
  rw [List.getElem?_set]
  by_cases hk : q = k
  · subst hk
    rw [if_pos rfl, dz_ws_len, if_pos hq, dz_ws_get (by rw [hs]; exact hq), he]
  · rw [if_neg hk]
    by_cases hl : k < g.1.length
    · rw [dz_ws_get hl, dz_ws_get (by rw [hs]; exact hl), ho k (fun z => hk z.symm)]
    · rw [List.getElem?_eq_none (by rw [dz_ws_len]; omega), List.getElem?_eq_none (by rw [dz_ws_len, hs]; omega)]
theorem dz_ce_cong {aC : Nat → ClassId} {ad : Nat → Nat} {g g' : dz_G} {q : Nat} (hs : g'.1[q]? = g.1[q]?) (h1 : g'.2.1 q = g.2.1 q) (h2 : g'.2.2 q = g.2.2 q) : dz_ce aC ad g' q = dz_ce aC ad g q := by
  unfold dz_ce
  rw [hs, h1, h2]
theorem dz_up_ne {α : Type} {f : Nat → Nat → α} {q k q' : Nat} {v : α} (h : q' ≠ q) : dz_up f q k v q' = f q' := by
  funext k'
  unfold dz_up
  rw [if_neg (fun z => h z.1)]
theorem dz_up_eq {α : Type} (f : Nat → Nat → α) (q k : Nat) (v : α) : dz_up f q k v q k = v := by
  unfold dz_up
  rw [if_pos ⟨rfl, rfl⟩]
theorem dz_up_k {α : Type} {f : Nat → Nat → α} {q k k' : Nat} {v : α} (h : k' ≠ k) : dz_up f q k v q k' = f q k' := by
  unfold dz_up
  rw [if_neg (fun z => h z.2)]
/-- the locals -/
def dz_ll (ad ob : Nat → Nat) : Nat → dz_L → List (Nat × Value)
  | _, [] => []
  | k, none :: L => dz_ll ad ob (k + 1) L
  | k, some v :: L => (k, dz_cv ad ob v) :: dz_ll ad ob (k + 1) L
theorem dz_ll_mem {ad ob : Nat → Nat} {q : Nat × Value} : ∀ {L : dz_L} {k : Nat}, q ∈ dz_ll ad ob k L ↔ ∃ i v, L[i]? = some (some v) ∧ q = (k + i, dz_cv ad ob v)
  | [], k => by simp [dz_ll]
  | none :: L, k => by
    rw [show dz_ll ad ob k (none :: L) = dz_ll ad ob (k + 1) L from rfl, dz_ll_mem (L := L)]
    constructor
    · rintro ⟨i, v, h1, h2⟩
      exact ⟨i + 1, v, by simpa using h1, by rw [h2]; congr 1; omega⟩
    · rintro ⟨i, v, h1, h2⟩
      cases i with
      | zero => simp at h1
      | succ i => exact ⟨i, v, by simpa using h1, by rw [h2]; congr 1; omega⟩
  | some w :: L, k => by
    rw [show dz_ll ad ob k (some w :: L) = (k, dz_cv ad ob w) :: dz_ll ad ob (k + 1) L from rfl, List.mem_cons, dz_ll_mem (L := L)]
    constructor
    · rintro (h | ⟨i, v, h1, h2⟩)
      · exact ⟨0, w, rfl, by rw [h]; rfl⟩
      · exact ⟨i + 1, v, by simpa using h1, by rw [h2]; congr 1; omega⟩
    · rintro ⟨i, v, h1, h2⟩
      cases i with
      | zero =>
        simp at h1
        subst h1
        exact Or.inl h2
      | succ i => exact Or.inr ⟨i, v, by simpa using h1, by rw [h2]; congr 1; omega⟩
def dz_lr (ad ob : Nat → Nat) (ls : Array Slot) (nL : Nat) (L : dz_L) : Prop := L.length = nL ∧ lv_has ls nL (dz_ll ad ob 0 L)
theorem dz_lr_at {ad ob : Nat → Nat} {ls : Array Slot} {nL : Nat} {L : dz_L} {k : Nat} {v : dz_V} (h : dz_lr ad ob ls nL L) (hk : L[k]? = some (some v)) : ls[k]? = some (.val (dz_cv ad ob v)) := by
  have := h.2.2.2 (0 + k, dz_cv ad ob v) (dz_ll_mem.mpr ⟨k, v, hk, rfl⟩)
  simpa using this
theorem dz_cat_ok (ad ob : Nat → Nat) (v : dz_V) : (dz_cv ad ob v).category = dz_cat v := by
  rcases v with x | x | x | x <;> rfl
theorem dz_clr_s (L : dz_L) (k : Nat) : dz_clr L (k + 1) = match L[k]? with
    | some (some (.inr (.inl _))) => L.set k none
    | _ => L := rfl
theorem dz_clr_len (L : dz_L) (k : Nat) : (dz_clr L k).length = L.length := by
  cases k with
  | zero => rfl
  | succ k =>
    rw [dz_clr_s]
    split
    · simp
    · rfl
/-- an entry that is still there when place k is stored to -/
theorem dz_clr_get {L : dz_L} {k i : Nat} {v : dz_V} (h : (dz_clr L k)[i]? = some (some v)) : L[i]? = some (some v) ∧ ¬ (i + 1 = k ∧ dz_cat v = 2) := by
  cases k with
  | zero => exact ⟨h, fun z => by omega⟩
  | succ k =>
    rw [dz_clr_s] at h
    split at h
    · rename_i x hx
      rw [List.getElem?_set] at h
      by_cases e : k = i
      · rw [if_pos e] at h
        split at h <;> cases h
      · rw [if_neg e] at h
        exact ⟨h, fun z => e (by omega)⟩
    · rename_i hno
      refine ⟨h, fun z => ?_⟩
      have e : i = k := by omega
      subst e
      rcases v with x | x | x | x
      · exact absurd z.2 (show ¬ (1 = 2) by decide)
      · exact hno x h
      · exact absurd z.2 (show ¬ (1 = 2) by decide)
      · exact absurd z.2 (show ¬ (1 = 2) by decide)
theorem dz_lr_st1 {ad ob : Nat → Nat} {ls : Array Slot} {nL : Nat} {L : dz_L} {k : Nat} {v : dz_V} (hk : k < nL) {lw : Array Slot} (h : dz_lr ad ob ls nL L) (hw : lv_has lw nL ((k, dz_cv ad ob v) :: (dz_ll ad ob 0 L).filter (fun q => !(q.1 == k) && !(q.1 + 1 == k && q.2.category == 2)))) : dz_lr ad ob lw nL ((dz_clr L k).set k (some v)) := by
  refine ⟨by rw [List.length_set, dz_clr_len]; exact h.1, hw.1, hw.2.1, fun q hq => hw.2.2 q ?_⟩
  obtain ⟨i, w, h1, rfl⟩ := dz_ll_mem.mp hq
  rw [List.getElem?_set] at h1
  by_cases e : k = i
  · subst e
    rw [if_pos rfl] at h1
    split at h1
    · cases h1
      exact List.mem_cons.mpr (Or.inl (by simp))
    · cases h1
  · rw [if_neg e] at h1
    obtain ⟨a, b⟩ := dz_clr_get h1
    refine List.mem_cons.mpr (Or.inr (List.mem_filter.mpr ⟨dz_ll_mem.mpr ⟨i, w, a, rfl⟩, ?_⟩))
    simp only [Nat.zero_add, dz_cat_ok, Bool.and_eq_true, Bool.not_eq_true', beq_eq_false_iff_ne, ne_eq, Bool.and_eq_false_iff]
    refine ⟨fun z => e z.symm, ?_⟩
    by_cases e2 : i + 1 = k
    · exact Or.inr (fun z => b ⟨e2, z⟩)
    · exact Or.inl e2
theorem dz_lr_st2 {ad ob : Nat → Nat} {ls : Array Slot} {nL : Nat} {L : dz_L} {k : Nat} {v : dz_V} (hk : k + 1 < nL) {lw : Array Slot} (h : dz_lr ad ob ls nL L) (hw : lv_has lw nL ((k, dz_cv ad ob v) :: (dz_ll ad ob 0 L).filter (fun q => !(q.1 == k) && (!(q.1 == k + 1) && !(q.1 + 1 == k && q.2.category == 2))))) : dz_lr ad ob lw nL (((dz_clr L k).set k (some v)).set (k + 1) none) := by
  refine ⟨by rw [List.length_set, List.length_set, dz_clr_len]; exact h.1, hw.1, hw.2.1, fun q hq => hw.2.2 q ?_⟩
  obtain ⟨i, w, h1, rfl⟩ := dz_ll_mem.mp hq
  rw [List.getElem?_set] at h1
  by_cases e0 : k + 1 = i
  · rw [if_pos e0] at h1
    split at h1 <;> cases h1
  · rw [if_neg e0, List.getElem?_set] at h1
    by_cases e : k = i
    · subst e
      rw [if_pos rfl] at h1
      split at h1
      · cases h1
        exact List.mem_cons.mpr (Or.inl (by simp))
      · cases h1
    · rw [if_neg e] at h1
      obtain ⟨a, b⟩ := dz_clr_get h1
      refine List.mem_cons.mpr (Or.inr (List.mem_filter.mpr ⟨dz_ll_mem.mpr ⟨i, w, a, rfl⟩, ?_⟩))
      simp only [Nat.zero_add, dz_cat_ok, Bool.and_eq_true, Bool.not_eq_true', beq_eq_false_iff_ne, ne_eq, Bool.and_eq_false_iff]
      refine ⟨fun z => e z.symm, fun z => e0 z.symm, ?_⟩
      by_cases e2 : i + 1 = k
      · exact Or.inr (fun z => b ⟨e2, z⟩)
      · exact Or.inl e2
/-- locals are known where they were -/
theorem dz_okL_st1 {n nL k : Nat} {L : dz_L} {v : dz_V} (h : ∀ (i : Nat) (w : dz_V), L[i]? = some (some w) → dz_okV n w) (hv : dz_okV n v) : ∀ (i : Nat) (w : dz_V), ((dz_clr L k).set k (some v))[i]? = some (some w) → dz_okV n w := by
  intro i w h1
  rw [List.getElem?_set] at h1
  split at h1
  · split at h1
    · cases h1; exact hv
    · cases h1
  · exact h i w (dz_clr_get h1).1
theorem dz_okL_st2 {n k : Nat} {L : dz_L} {v : dz_V} (h : ∀ (i : Nat) (w : dz_V), L[i]? = some (some w) → dz_okV n w) (hv : dz_okV n v) : ∀ (i : Nat) (w : dz_V), (((dz_clr L k).set k (some v)).set (k + 1) none)[i]? = some (some w) → dz_okV n w := by
  intro i w h1
  rw [List.getElem?_set] at h1
  split at h1
  · split at h1 <;> cases h1
  · exact dz_okL_st1 (nL := 0) h hv i w h1
/-- the tables of array classes -/
def dz_tys (aC : Nat → ClassId) : List (ClassId × FieldType) := [(aC 0, .int), (aC 1, .long), (aC 2, .byte), (aC 3, .object RX0), (aC 4, .array .int), (aC 5, .array .byte)]
theorem dz_tys_at {aC : Nat → ClassId} {t : Nat} (h : t < 6) : (dz_tys aC)[t]? = some (aC t, dz_ty t) := by
  match t, h with
  | 0, _ => rfl
  | 1, _ => rfl
  | 2, _ => rfl
  | 3, _ => rfl
  | 4, _ => rfl
  | 5, _ => rfl
/-- the words that callers hand on -/
def dz_T : List Cond := lw_tbl.filter goodWord
def dz_nest : Cond → Bool
  | .fieldLinkNest _ _ _ _ _ _ => true
  | .methodLinkNest _ _ _ _ => true
  | _ => false
def dz_NW (U : State) : Prop := (∀ w ∈ lw_tbl, dz_nest w = true → va_Nw w U) ∧ va_AO RX0 U ∧ va_AOA .int U ∧ va_AOA .byte U
/-- the arrays that were there before: the script, the two tables of the class -/
def dz_OL (ob : Nat → Nat) (xo : Nat → List Int) (A : Nat → Prop) (U : State) (H : Heap) : Prop := (∀ o, o < 3 → va_T .int (ob o) (xo o).length (fun j => .int (Int32.ofInt ((xo o).getD j 0))) A U H ∧ (xo o).length < 2147483648 ∧ ∀ j, dz_in32 ((xo o).getD j 0)) ∧ (∀ o, o = 1 ∨ o = 2 → va_Z RX5 (dz_sn o) "[I" (.ref (ob o)) A U H)
/-- what a method's body stands on -/
def dz_ctx (p : Program) (s : State) (m : MethodId) (args : Array Value) (meth : Method) (cd : Code) (cc : ByteArray) (own : String) (nL : Nat) (D : va_G) (aC : Nat → ClassId) (ob : Nat → Nat) (xo : Nat → List Int) (A : Nat → Prop) : Prop :=
  p.tables.exec = Jvm.exec ∧ cd.code = cc ∧ cd.maxLocals = nL ∧ s.vm.findClass own = some m.cls ∧ (∀ w ∈ dz_T, w.before args s = true) ∧ va_K D vwCl (dz_tys aC) s ∧ (∀ q, s.heap.size ≤ q → A q) ∧ dz_NW s ∧ dz_OL ob xo A s s.heap
def dz_Z (s : State) (nL : Nat) (D : va_G) (aC : Nat → ClassId) (ob : Nat → Nat) (A : Nat → Prop) (L : dz_L) (st : List dz_V) (g : dz_G) (ls : Array Slot) (H : Heap) (locs : List Loc) (ad : Nat → Nat) : Prop :=
  dz_lr ad ob ls nL L ∧ (∀ (k : Nat) (v : dz_V), L[k]? = some (some v) → dz_okV g.1.length v) ∧ (∀ v ∈ st, dz_okV g.1.length v) ∧ dz_okG g ∧ va_P D vwCl (dz_ws aC ad g) H ∧ va_D A (dz_ws aC ad g) ∧ va_S A s.heap H locs
/-- the real machine at a place of a method -/
def dz_Wp (p : Program) (l : Launch) (e : Env) (R : Room) (s : State) (m : MethodId) (args : Array Value) (below : List Frame) (meth : Method) (cd : Code) (nL : Nat) (D : va_G) (aC : Nat → ClassId) (ob : Nat → Nat) (A : Nat → Prop) (Qm : State → Prop) (n0 : Nat) (ad0 : Nat → Nat) : dz_R := fun pc L st kc ks g =>
  n0 ≤ g.1.length → ∀ (ls : Array Slot) (H : Heap) (locs : List Loc) (ad : Nat → Nat), (∀ q, q < n0 → ad q = ad0 q) → dz_Z s nL D aC ob A L st g ls H locs ad → W p l e R s m args below meth cd H locs kc ks Qm (F0 m pc ls (st.map (dz_cv ad ob)))

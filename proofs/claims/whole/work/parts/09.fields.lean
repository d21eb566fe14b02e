/-! The classes' tables, fields. -/
def dz_cy : Nat → Nat → FieldType
  | 0 => tyX0
  | 1 => tyX1
  | 2 => tyX2
  | 3 => tyX3
  | 4 => tyX4
  | 5 => tyX5
  | _ => tyX6
def dz_fk : FieldType → Nat
  | .int => 0
  | .long => 1
  | .boolean => 3
  | .object _ => 2
  | .array _ => 2
  | _ => 9
theorem dz_lt7 {P : Nat → Prop} (h0 : P 0) (h1 : P 1) (h2 : P 2) (h3 : P 3) (h4 : P 4) (h5 : P 5) (h6 : P 6) : ∀ {ci : Nat}, ci < 7 → P ci
  | 0, _ => h0
  | 1, _ => h1
  | 2, _ => h2
  | 3, _ => h3
  | 4, _ => h4
  | 5, _ => h5
  | 6, _ => h6
theorem dz_c_at {ci : Nat} (h : ci < 7) : vwCl[ci]? = some (dz_cC ci, dz_cT ci, dz_nf ci) := dz_lt7 (P := fun ci => vwCl[ci]? = some (dz_cC ci, dz_cT ci, dz_nf ci)) rfl rfl rfl rfl rfl rfl rfl h
theorem dz_c_ty {ci : Nat} (h : ci < 7) : ∀ k, k < dz_nf ci → parseFieldDescriptor (dz_cT ci k).2.2.1 = some (dz_cy ci k) := dz_lt7 (P := fun ci => ∀ k, k < dz_nf ci → parseFieldDescriptor (dz_cT ci k).2.2.1 = some (dz_cy ci k)) tyX0_ok tyX1_ok tyX2_ok tyX3_ok tyX4_ok tyX5_ok tyX6_ok h
theorem dz_c_nm {ci : Nat} (h : ci < 7) : ∀ a, a < dz_nf ci → ∀ b, b < dz_nf ci → a ≠ b → (dz_cT ci a).2.1 ≠ (dz_cT ci b).2.1 := dz_lt7 (P := fun ci => ∀ a, a < dz_nf ci → ∀ b, b < dz_nf ci → a ≠ b → (dz_cT ci a).2.1 ≠ (dz_cT ci b).2.1) nmX0 nmX1 nmX2 nmX3 nmX4 nmX5 nmX6 h
theorem dz_c_fk {ci : Nat} (h : ci < 7) : ∀ k, k < dz_nf ci → dz_fk (dz_cy ci k) = dz_ft ci k := dz_lt7 (P := fun ci => ∀ k, k < dz_nf ci → dz_fk (dz_cy ci k) = dz_ft ci k) (by decide +kernel) (by decide +kernel) (by decide +kernel) (by decide +kernel) (by decide +kernel) (by decide +kernel) (by decide +kernel) h
theorem dz_T_in {w : Cond} (h : w ∈ lw_tbl) (hg : goodWord w = true) : w ∈ dz_T := List.mem_filter.mpr ⟨h, hg⟩
theorem dz_T_of {ws : List Cond} (h : ws.all (fun w => decide (w ∈ lw_tbl) && goodWord w) = true) : ∀ w ∈ ws, w ∈ dz_T := by
  intro w hw
  have h1 := List.all_eq_true.mp h w hw
  simp only [Bool.and_eq_true, decide_eq_true_eq] at h1
  exact dz_T_in h1.1 h1.2
set_option maxRecDepth 100000 in
theorem dz_u0 : ∀ w ∈ u_ws RX0 TX0 6, w ∈ dz_T := dz_T_of (by decide +kernel)
set_option maxRecDepth 100000 in
theorem dz_u1 : ∀ w ∈ u_ws RX1 TX1 12, w ∈ dz_T := dz_T_of (by decide +kernel)
set_option maxRecDepth 100000 in
theorem dz_u2 : ∀ w ∈ u_ws RX2 TX2 7, w ∈ dz_T := dz_T_of (by decide +kernel)
set_option maxRecDepth 100000 in
theorem dz_u3 : ∀ w ∈ u_ws RX3 TX3 4, w ∈ dz_T := dz_T_of (by decide +kernel)
set_option maxRecDepth 100000 in
theorem dz_u4 : ∀ w ∈ u_ws RX4 TX4 7, w ∈ dz_T := dz_T_of (by decide +kernel)
set_option maxRecDepth 100000 in
theorem dz_u5 : ∀ w ∈ u_ws RX5 TX5 17, w ∈ dz_T := dz_T_of (by decide +kernel)
set_option maxRecDepth 100000 in
theorem dz_u6 : ∀ w ∈ u_ws RX6 TX6 28, w ∈ dz_T := dz_T_of (by decide +kernel)
theorem dz_c_u {ci : Nat} (h : ci < 7) : ∀ w ∈ u_ws (dz_cC ci) (dz_cT ci) (dz_nf ci), w ∈ dz_T := dz_lt7 (P := fun ci => ∀ w ∈ u_ws (dz_cC ci) (dz_cT ci) (dz_nf ci), w ∈ dz_T) dz_u0 dz_u1 dz_u2 dz_u3 dz_u4 dz_u5 dz_u6 h
theorem dz_map_set {f f' : Nat → Value} {n k : Nat} {v : Value} (hk : f' k = v) (ho : ∀ j, j ≠ k → f' j = f j) : ((List.range n).map f).set k v = (List.range n).map f' := by
  apply List.ext_getElem?
  intro j
  rw [List.getElem?_set]
  by_cases e : k = j
  · subst e
    rw [if_pos rfl]
    by_cases hl : k < n
    · rw [if_pos (by simpa using hl), List.getElem?_map, List.getElem?_range hl, Option.map_some, hk]
    · rw [if_neg (by simpa using hl), List.getElem?_eq_none (by simpa using hl)]
  · rw [if_neg e, List.getElem?_map, List.getElem?_map]
    by_cases hl : j < n
    · rw [List.getElem?_range hl, Option.map_some, Option.map_some, ho j (fun z => e z.symm)]
    · rw [List.getElem?_eq_none (by simpa using hl)]
      rfl
theorem dz_fs_get {f : Nat → Value} {n k : Nat} (hk : k < n) : ((List.range n).map f)[k]? = some (f k) := by
  rw [List.getElem?_map, List.getElem?_range hk]
  rfl
theorem dz_okG_M {g : dz_G} {q k : Nat} {x : Int} (h : dz_okG g) (h1 : dz_in64 x) (h2 : ∀ ci, g.1[q]? = some (Sum.inl ci) → dz_ft ci k ≠ 1 → dz_in32 x) (h3 : ∀ t n : Nat, g.1[q]? = some (Sum.inr (t, n)) → t ≠ 1 → dz_in32 x) : dz_okG (g.1, g.2.1, dz_up g.2.2 q k x) := by
  obtain ⟨a, b, c, d, f⟩ := h
  refine ⟨a, fun q' k' => ?_, fun q' k' ci hq ht => ?_, fun q' t n hq => ⟨fun ht k' => ?_, (d q' t n hq).2⟩, f⟩
  · show dz_in64 (dz_up g.2.2 q k x q' k')
    unfold dz_up
    split
    · exact h1
    · exact b q' k'
  · show dz_in32 (dz_up g.2.2 q k x q' k')
    unfold dz_up
    split
    · rename_i e
      obtain ⟨e1, e2⟩ := e
      subst e1; subst e2
      exact h2 ci hq ht
    · exact c q' k' ci hq ht
  · show dz_in32 (dz_up g.2.2 q k x q' k')
    unfold dz_up
    split
    · rename_i e
      obtain ⟨e1, e2⟩ := e
      subst e1; subst e2
      exact h3 t n hq ht
    · exact (d q' t n hq).1 ht k'
theorem dz_okG_r {g : dz_G} {q k r : Nat} (h : dz_okG g) (hr : r < g.1.length) : dz_okG (g.1, dz_up g.2.1 q k (r + 1), g.2.2) := by
  obtain ⟨a, b, c, d, f⟩ := h
  refine ⟨fun q' k' => ?_, b, c, d, f⟩
  show dz_up g.2.1 q k (r + 1) q' k' ≤ g.1.length
  unfold dz_up
  split
  · omega
  · exact a q' k'
section DZF
variable {p : Program} {l : Launch} {e : Env} {R : Room} {s : State} {m : MethodId} {args : Array Value} {below : List Frame} {meth : Method} {cd : Code} {cc : ByteArray} {own : String} {nL : Nat} {D : va_G} {aC : Nat → ClassId} {ob : Nat → Nat} {xo : Nat → List Int} {A : Nat → Prop} {Qm : State → Prop} {n0 : Nat} {ad0 : Nat → Nat}
variable {pc pc1 kc ks : Nat} {L : dz_L} {st st1 : List dz_V} {g : dz_G}
/-- the link of a field: one's own, or a nest mate's -/
def dz_fl (own : String) (idx : Nat) (a b : Nat) (args : Array Value) (s : State) : Prop := (Cond.fieldLink own idx (dz_cT a b).1 (dz_cT a b).2.1 (dz_cT a b).2.2.1).before args s = true ∨ ∃ host, (Cond.fieldLinkNest own idx (dz_cT a b).1 (dz_cT a b).2.1 (dz_cT a b).2.2.1 host).before args s = true
theorem dzs_getfield (C : dz_ctx p s m args meth cd cc own nL D aC ob xo A) {idx a b : Nat} (ha : a < 7) (hb : b < dz_nf a) (hl : dz_fl own idx a b args s) (hd : decode cc pc = .ok (.getfield idx, 3))
    (h : dz_uq st fun q st => g.1[q]? = some (.inl a) ∧ dz_gf g (dz_ft a b) q b fun x => dz_Wp p l e R s m args below meth cd nL D aC ob A Qm n0 ad0 (pc + 3) L (x :: st) kc ks g) : dz_Wp p l e R s m args below meth cd nL D aC ob A Qm n0 ad0 pc L st kc ks g := by
  unfold dz_uq at h
  split at h
  · rename_i q st'
    obtain ⟨hq, h⟩ := h
    have row : ∀ (x : dz_V), (dz_okG g → dz_okV g.1.length x) → (∀ ad : Nat → Nat, dz_cv ad ob x = dz_fv ad (dz_ft a b) (g.2.1 q b) (g.2.2 q b)) → dz_Wp p l e R s m args below meth cd nL D aC ob A Qm n0 ad0 (pc + 3) L (x :: st') kc ks g → dz_Wp p l e R s m args below meth cd nL D aC ob A Qm n0 ad0 pc L (.inr (.inr (.inl q)) :: st') kc ks g := by
      intro x hx hv h
      refine dz_pure (fun h1 h2 _ => dz_okc (hx h2) (dz_okt h1)) (fun ls H locs ad Z w => ?_) h
      obtain ⟨z1, z2, z3, z4, z5, z6, z7⟩ := Z
      have he : (dz_ws aC ad g)[q]? = some (ad q, .inr (a, (List.range (dz_nf a)).map (fun k => dz_fv ad (dz_ft a k) (g.2.1 q k) (g.2.2 q k)))) := by rw [dz_ws_get (dz_lt hq), dz_ce_o hq]
      have hv2 : ((List.range (dz_nf a)).map (fun k => dz_fv ad (dz_ft a k) (g.2.1 q k) (g.2.2 q k)))[b]? = some (dz_cv ad ob x) := by rw [dz_fs_get hb, hv]
      rcases hl with hl | ⟨host, hl⟩
      · exact va_get C.1 C.2.1 C.2.2.2.2.1 (dz_c_u ha) C.2.2.2.1 C.2.2.2.2.2.1 z5 q he (dz_c_at ha) b hb hl (fun _ z => z) hv2 hd w
      · exact va_getN C.1 C.2.1 C.2.2.2.2.1 (dz_c_u ha) C.2.2.2.1 C.2.2.2.2.2.1 z5 q he (dz_c_at ha) b hb hl (fun _ z => z) hv2 hd w
    unfold dz_gf at h
    split at h
    · rename_i e0
      exact row (dz_i (g.2.2 q b)) (fun z => z.2.2.1 q b a hq (by rw [e0]; decide)) (fun ad => by rw [e0]; rfl) h
    · rename_i e0
      exact row (dz_l (g.2.2 q b)) (fun z => z.2.1 q b) (fun ad => by rw [e0]; rfl) h
    · rename_i e0
      split at h
      · exact h.elim
      · rename_i r hr
        exact row _ (fun z => by have := z.1 q b; rw [hr] at this; exact this) (fun ad => by rw [e0, hr]; rfl) h
    · rename_i e0 e1 e2
      refine row (dz_i (g.2.2 q b)) (fun z => z.2.2.1 q b a hq (fun w => e1 w)) (fun ad => ?_) h
      unfold dz_fv
      split
      · rfl
      · rename_i w; exact absurd w e1
      · rename_i w; exact absurd w e2
      · rfl
  · exact h.elim
theorem dz_fits_0 {ty : FieldType} (h : dz_fk ty = 0) (x : Int32) : narrow ty (.int x) = .int x ∧ fits ty (.int x) = true := by
  cases ty <;> first | exact ⟨rfl, rfl⟩ | (exact absurd h (by decide)) | (exact absurd h (fun z => by cases z))
theorem dz_fits_1 {ty : FieldType} (h : dz_fk ty = 1) (x : Int64) : narrow ty (.long x) = .long x ∧ fits ty (.long x) = true := by
  cases ty <;> first | exact ⟨rfl, rfl⟩ | (exact absurd h (by decide)) | (exact absurd h (fun z => by cases z))
theorem dz_fits_2 {ty : FieldType} (h : dz_fk ty = 2) (a : Nat) : narrow ty (.ref a) = .ref a ∧ fits ty (.ref a) = true := by
  cases ty <;> first | exact ⟨rfl, rfl⟩ | (exact absurd h (by decide)) | (exact absurd h (fun z => by cases z))
theorem dz_fits_3 {ty : FieldType} (h : dz_fk ty = 3) {x : Int} (hx : x = 0 ∨ x = 1) : narrow ty (.int (Int32.ofInt x)) = .int (Int32.ofInt x) ∧ fits ty (.int (Int32.ofInt x)) = true := by
  cases ty <;> first | (rcases hx with rfl | rfl <;> exact ⟨rfl, rfl⟩) | (exact absurd h (by decide)) | (exact absurd h (fun z => by cases z))
/-- a field that may be put: not final, or final in its own class's constructor -/
def dz_fp (own : String) (idx a b : Nat) (args : Array Value) (s : State) (meth : Method) : Prop := ((dz_cT a b).2.2.2 = false ∧ dz_fl own idx a b args s) ∨ ((dz_cT a b).2.2.2 = true ∧ meth.name = "<init>" ∧ (dz_cT a b).1 = own ∧ (Cond.fieldLink own idx (dz_cT a b).1 (dz_cT a b).2.1 (dz_cT a b).2.2.1).before args s = true)
theorem dzs_putfield (C : dz_ctx p s m args meth cd cc own nL D aC ob xo A) {idx a b q : Nat} {x : dz_V} {st : List dz_V} (ha : a < 7) (hb : b < dz_nf a) (hl : dz_fp own idx a b args s meth) (hd : decode cc pc = .ok (.putfield idx, 3)) (hq : g.1[q]? = some (.inl a))
    (h : dz_pf g (dz_ft a b) q b x fun g => dz_Wp p l e R s m args below meth cd nL D aC ob A Qm n0 ad0 (pc + 3) L st kc ks g) : dz_Wp p l e R s m args below meth cd nL D aC ob A Qm n0 ad0 pc L (x :: .inr (.inr (.inl q)) :: st) kc ks g := by
  have row : ∀ (g' : dz_G), g'.1 = g.1 → (dz_okG g → dz_okV g.1.length x → dz_okG g') → (∀ ad : Nat → Nat, narrow (dz_cy a b) (dz_cv ad ob x) = dz_cv ad ob x ∧ fits (dz_cy a b) (dz_cv ad ob x) = true) → (∀ ad : Nat → Nat, dz_fv ad (dz_ft a b) (g'.2.1 q b) (g'.2.2 q b) = dz_cv ad ob x) → (∀ (q' k : Nat), ¬ (q' = q ∧ k = b) → g'.2.1 q' k = g.2.1 q' k ∧ g'.2.2 q' k = g.2.2 q' k) → dz_Wp p l e R s m args below meth cd nL D aC ob A Qm n0 ad0 (pc + 3) L st kc ks g' → dz_Wp p l e R s m args below meth cd nL D aC ob A Qm n0 ad0 pc L (x :: .inr (.inr (.inl q)) :: st) kc ks g := by
    intro g' hs hok hft hv ho h hn ls H locs ad had Z
    obtain ⟨z1, z2, z3, z4, z5, z6, z7⟩ := Z
    have he : (dz_ws aC ad g)[q]? = some (ad q, .inr (a, (List.range (dz_nf a)).map (fun k => dz_fv ad (dz_ft a k) (g.2.1 q k) (g.2.2 q k)))) := by rw [dz_ws_get (dz_lt hq), dz_ce_o hq]
    have hset : (dz_ws aC ad g).set q (ad q, .inr (a, ((List.range (dz_nf a)).map (fun k => dz_fv ad (dz_ft a k) (g.2.1 q k) (g.2.2 q k))).set b (dz_cv ad ob x))) = dz_ws aC ad g' := by
      refine dz_ws_set hs ?_ (fun q' hne => dz_ce_cong (by rw [hs]) (funext fun k => (ho q' k (fun z => hne z.1)).1) (funext fun k => (ho q' k (fun z => hne z.1)).2)) (dz_lt hq)
      rw [dz_ce_o (by rw [hs]; exact hq), dz_map_set (f' := fun k => dz_fv ad (dz_ft a k) (g'.2.1 q k) (g'.2.2 q k)) (hv ad) (fun j hj => ?_)]
      show dz_fv ad (dz_ft a j) (g'.2.1 q j) (g'.2.2 q j) = _
      rw [(ho q j (fun z => hj z.2)).1, (ho q j (fun z => hj z.2)).2]
    have kk : ∀ (H1 : Heap) (locs1 : List Loc), va_P D vwCl ((dz_ws aC ad g).set q (ad q, .inr (a, ((List.range (dz_nf a)).map (fun k => dz_fv ad (dz_ft a k) (g.2.1 q k) (g.2.2 q k))).set b (dz_cv ad ob x)))) H1 → va_D A ((dz_ws aC ad g).set q (ad q, .inr (a, ((List.range (dz_nf a)).map (fun k => dz_fv ad (dz_ft a k) (g.2.1 q k) (g.2.2 q k))).set b (dz_cv ad ob x)))) → va_S A s.heap H1 locs1 → W p l e R s m args below meth cd H1 locs1 kc ks Qm (F0 m (pc + 3) ls (st.map (dz_cv ad ob))) := by
      intro H1 locs1 y5 y6 y7
      rw [hset] at y5 y6
      refine h (by rw [hs]; exact hn) ls H1 locs1 ad had ⟨z1, fun k v hk => by rw [hs]; exact z2 k v hk, fun v hv => by rw [hs]; exact dz_okt (dz_okt z3) v hv, hok z4 (dz_ok1 z3), y5, y6, y7⟩
    have hlen : b < ((List.range (dz_nf a)).map (fun k => dz_fv ad (dz_ft a k) (g.2.1 q k) (g.2.2 q k))).length := by simpa using hb
    rcases hl with ⟨hf, hl | ⟨host, hl⟩⟩ | ⟨hf, hi, ho, hl⟩
    · exact va_put C.1 C.2.1 C.2.2.2.2.1 (dz_c_u ha) (dz_cy a) (dz_c_ty ha) (dz_c_nm ha) C.2.2.2.1 C.2.2.2.2.2.1 z5 z6 z7 q he (dz_c_at ha) b hb hl (fun _ z => z) hf (dz_c_ty ha b hb) (hft ad).1 (hft ad).2 hlen hd kk
    · exact va_putN C.1 C.2.1 C.2.2.2.2.1 (dz_c_u ha) (dz_cy a) (dz_c_ty ha) (dz_c_nm ha) C.2.2.2.1 C.2.2.2.2.2.1 z5 z6 z7 q he (dz_c_at ha) b hb hl (fun _ z => z) hf (dz_c_ty ha b hb) (hft ad).1 (hft ad).2 hlen hd kk
    · exact va_putF C.1 C.2.1 C.2.2.2.2.1 (dz_c_u ha) (dz_cy a) (dz_c_ty ha) (dz_c_nm ha) C.2.2.2.1 C.2.2.2.2.2.1 z5 z6 z7 q he (dz_c_at ha) b hb hl (fun _ z => z) hf hi ho (dz_c_ty ha b hb) (hft ad).1 (hft ad).2 hlen hd kk
  have hk := dz_c_fk ha b hb
  have hnoa : ∀ t n : Nat, g.1[q]? = some (Sum.inr (t, n)) → False := fun t n z => by rw [hq] at z; cases z
  have oth : ∀ {y : Int} (q' k : Nat), ¬ (q' = q ∧ k = b) → dz_up g.2.2 q b y q' k = g.2.2 q' k := fun q' k z => by unfold dz_up; rw [if_neg z]
  have othr : ∀ {y : Nat} (q' k : Nat), ¬ (q' = q ∧ k = b) → dz_up g.2.1 q b y q' k = g.2.1 q' k := fun q' k z => by unfold dz_up; rw [if_neg z]
  unfold dz_pf at h
  split at h
  · rename_i y e0
    refine row (g.1, g.2.1, dz_up g.2.2 q b y) rfl (fun z1 z2 => dz_okG_M z1 (dz_in32_64 z2) (fun _ _ _ => z2) (fun t n z => (hnoa t n z).elim)) (fun ad => dz_fits_0 (hk.trans e0) _) (fun ad => ?_) (fun q' k z => ⟨rfl, oth q' k z⟩) h
    rw [e0]
    show Value.int (Int32.ofInt (dz_up g.2.2 q b y q b)) = _
    rw [dz_up_eq]
    rfl
  · rename_i y e0
    refine row (g.1, g.2.1, dz_up g.2.2 q b y) rfl (fun z1 z2 => dz_okG_M z1 z2 (fun ci hci hne => absurd (by rw [hq] at hci; cases hci; exact e0) hne) (fun t n z => (hnoa t n z).elim)) (fun ad => dz_fits_1 (hk.trans e0) _) (fun ad => ?_) (fun q' k z => ⟨rfl, oth q' k z⟩) h
    rw [e0]
    show Value.long (Int64.ofInt (dz_up g.2.2 q b y q b)) = _
    rw [dz_up_eq]
    rfl
  · rename_i r e0
    refine row (g.1, dz_up g.2.1 q b (r + 1), g.2.2) rfl (fun z1 z2 => dz_okG_r z1 z2) (fun ad => dz_fits_2 (hk.trans e0) _) (fun ad => ?_) (fun q' k z => ⟨othr q' k z, rfl⟩) h
    rw [e0]
    show va_rf (dz_ro ad (dz_up g.2.1 q b (r + 1) q b)) = _
    rw [dz_up_eq]
    rfl
  · rename_i y e0
    refine row (g.1, g.2.1, dz_up g.2.2 q b y) rfl (fun z1 z2 => dz_okG_M z1 (dz_in32_64 z2) (fun _ _ _ => z2) (fun t n z => (hnoa t n z).elim)) (fun ad => dz_fits_3 (hk.trans e0) h.1) (fun ad => ?_) (fun q' k z => ⟨rfl, oth q' k z⟩) h.2
    rw [e0]
    show Value.int (Int32.ofInt (dz_up g.2.2 q b y q b)) = _
    rw [dz_up_eq]
    rfl
  · exact h.elim
end DZF

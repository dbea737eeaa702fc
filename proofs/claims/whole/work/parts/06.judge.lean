/-! ===== the judgement: from here the method comes to its end with what o says ===== -/
abbrev zKx : Type := Program × Launch × Env × Room × State × MethodId × Array Value × List Frame × Method × Code × va_G × (Nat → ClassId) × (Nat → Prop) × zF × zS
def zJ {α : Type} (w : zW) (nL : Nat) (K : zKx) (Qf : α → zS → State → Prop) (cl sl pc : Nat) (L : List (Nat × zV)) (S : List zV) (σ : zS) (o : Option (α × zS)) : Prop := match K with
  | (p, l, e, R, s, m, args, below, meth, c, D, dA, A, φ0, σ0) => ∀ (r : α) (σ' : zS), o = some (r, σ') → ∀ (φ : zF) (H : Heap) (locs : List Loc) (ls : Array Slot), zRep w D dA A φ σ H → zExt φ0 σ0 φ σ → va_S A s.heap H locs → lv_has ls nL (L.map fun q => (q.1, zcv φ q.2)) → (∀ q ∈ L, zok σ q.2) → (∀ v ∈ S, zok σ v) → W p l e R s m args below meth c H locs cl sl (Qf r σ') (F0 m pc ls (S.map (zcv φ)))
/-- what stands fast in a method -/
def zC (w : zW) (nL : Nat) (K : zKx) (own : String) (cc : ByteArray) (nm : String) (ret : Option FieldType) (fr lo mc ms : Nat) : Prop := match K with
  | (p, _, _, R, s, m, args, _, meth, c, D, dA, A, φ0, σ0) => p.tables.exec = Jvm.exec ∧ c.code = cc ∧ c.maxLocals = nL ∧ s.vm.findClass own = some m.cls ∧ (∀ v ∈ zT, v.before args s = true) ∧ va_K D vwCl (zTys dA) s ∧ zNst s ∧ (∀ q, s.heap.size ≤ q → A q) ∧ zSt (φ0 1000 0) A s s.heap ∧ meth.locks = false ∧ meth.sig.returnType = ret ∧ meth.name = nm ∧ R = { frames := fr, cells := mc, slots := ms, locals := lo }
def zins : List (Nat × zV) → Nat → zV → List (Nat × zV)
  | [], k, v => [(k, v)]
  | (j, u) :: r, k, v => if k < j then (k, v) :: (j, u) :: r else (j, u) :: zins r k v
def zput (L : List (Nat × zV)) (k : Nat) (v : zV) : List (Nat × zV) := zins (L.filter fun q => q.1 != k) k v
theorem zins_mem {L : List (Nat × zV)} {k : Nat} {v : zV} {q : Nat × zV} (h : q ∈ zins L k v) : q = (k, v) ∨ q ∈ L := by
  induction L with
  | nil => exact Or.inl (List.mem_singleton.mp h)
  | cons a l ih =>
    obtain ⟨j, u⟩ := a
    unfold zins at h
    split at h
    · rcases List.mem_cons.mp h with h | h
      · exact Or.inl h
      · exact Or.inr h
    · rcases List.mem_cons.mp h with h | h
      · exact Or.inr (by rw [h]; exact List.mem_cons_self)
      · rcases ih h with h | h
        · exact Or.inl h
        · exact Or.inr (List.mem_cons_of_mem _ h)
theorem zput_mem {L : List (Nat × zV)} {k : Nat} {v : zV} {q : Nat × zV} (h : q ∈ zput L k v) : q = (k, v) ∨ (q ∈ L ∧ q.1 ≠ k) := by
  rcases zins_mem h with h | h
  · exact Or.inl h
  · have h2 := List.mem_filter.mp h
    exact Or.inr ⟨h2.1, by simpa using h2.2⟩
theorem zput_has {φ : zF} {ls : Array Slot} {nL k : Nat} {L : List (Nat × zV)} {v : zV} {x : Value} (hx : x = zcv φ v)
    (h : lv_has ls nL ((k, x) :: (L.map fun q => (q.1, zcv φ q.2)).filter (fun q => !(q.1 == k) && !(q.1 + 1 == k && q.2.category == 2)))) : lv_has ls nL ((zput L k v).map fun q => (q.1, zcv φ q.2)) := by
  subst hx
  refine ⟨h.1, h.2.1, fun q hq => h.2.2 q ?_⟩
  obtain ⟨q1, hq1, rfl⟩ := List.mem_map.mp hq
  rcases zput_mem hq1 with rfl | ⟨h1, h2⟩
  · exact List.mem_cons_self
  · refine List.mem_cons_of_mem _ (List.mem_filter.mpr ⟨List.mem_map.mpr ⟨q1, h1, rfl⟩, ?_⟩)
    have h3 : (zcv φ q1.2).category = 1 := zcv_cat _ _
    simp [h2, h3]
theorem zput_ok {σ : zS} {L : List (Nat × zV)} {k : Nat} {v : zV} (h : ∀ q ∈ L, zok σ q.2) (hv : zok σ v) : ∀ q ∈ zput L k v, zok σ q.2 := by
  intro q hq
  rcases zput_mem hq with rfl | ⟨h1, -⟩
  · exact hv
  · exact h q h1
theorem zhas_at {φ : zF} {ls : Array Slot} {nL q k : Nat} {L : List (Nat × zV)} {v : zV} (h : lv_has ls nL (L.map fun q => (q.1, zcv φ q.2))) (hq : L[q]? = some (k, v)) : ls[k]? = some (.val (zcv φ v)) := by
  refine lv_at h q ?_
  rw [List.getElem?_map, hq]; rfl
theorem zhas_x {φ φ' : zF} {σ σ' : zS} {ls : Array Slot} {nL : Nat} {L : List (Nat × zV)} (h : lv_has ls nL (L.map fun q => (q.1, zcv φ q.2))) (ok : ∀ q ∈ L, zok σ q.2) (e : zExt φ σ φ' σ') : lv_has ls nL (L.map fun q => (q.1, zcv φ' q.2)) := by
  have : (L.map fun q => (q.1, zcv φ' q.2)) = (L.map fun q => (q.1, zcv φ q.2)) := by
    apply List.map_congr_left
    intro q hq
    rw [zcv.x (ok q hq) e]
  rw [this]; exact h
theorem zst_x {φ φ' : zF} {σ σ' : zS} {S : List zV} (ok : ∀ v ∈ S, zok σ v) (e : zExt φ σ φ' σ') : S.map (zcv φ') = S.map (zcv φ) := List.map_congr_left fun v hv => zcv.x (ok v hv) e
section JP
variable {α : Type} {w : zW} {nL : Nat} {K : zKx} {Qf : α → zS → State → Prop} {cl sl pc : Nat} {L L' : List (Nat × zV)} {S : List zV} {σ : zS} {o : Option (α × zS)}
variable {own : String} {cc : ByteArray} {nm : String} {ret : Option FieldType} {fr lo mc ms : Nat}
/-! rows that don't move the machine -/
theorem J_loc (ks : List Nat) (h : ks.filterMap (fun k => L[k]?) = L') (k : zJ w nL K Qf cl sl pc L' S σ o) : zJ w nL K Qf cl sl pc L S σ o := by
  obtain ⟨p, l, e, R, s, m, args, below, meth, c, D, dA, A, φ0, σ0⟩ := K
  intro r σ' ho φ H locs ls hR hE hS hl hL hV
  have hm : ∀ q ∈ L', q ∈ L := by
    intro q hq
    rw [← h] at hq
    obtain ⟨i, -, hi⟩ := List.mem_filterMap.mp hq
    exact List.mem_of_getElem? hi
  refine k r σ' ho φ H locs ls hR hE hS ⟨hl.1, hl.2.1, fun q hq => hl.2.2 q ?_⟩ (fun q hq => hL q (hm q hq)) hV
  obtain ⟨q1, hq1, rfl⟩ := List.mem_map.mp hq
  exact List.mem_map.mpr ⟨q1, hm q1 hq1, rfl⟩
theorem J_g {c : Prop} [Decidable c] (k : c → zJ w nL K Qf cl sl pc L S σ o) : zJ w nL K Qf cl sl pc L S σ (g_ c o) := by
  by_cases h : c
  · rw [show g_ c o = o from if_pos h]; exact k h
  · rw [show g_ c o = none from if_neg h]
    obtain ⟨p, l, e, R, s, m, args, below, meth, c, D, dA, A, φ0, σ0⟩ := K
    intro r σ' ho
    cases ho
theorem J_if {c : Prop} [Decidable c] {o2 : Option (α × zS)} (k1 : c → zJ w nL K Qf cl sl pc L S σ o) (k2 : ¬ c → zJ w nL K Qf cl sl pc L S σ o2) : zJ w nL K Qf cl sl pc L S σ (if c then o else o2) := by
  by_cases h : c
  · rw [if_pos h]; exact k1 h
  · rw [if_neg h]; exact k2 h
theorem J_bind {r : Option Nat} {kk : Nat → Option (α × zS)} (k : ∀ i, r = some i → zJ w nL K Qf cl sl pc L S σ (kk i)) : zJ w nL K Qf cl sl pc L S σ (r.bind kk) := by
  cases r with
  | none =>
    obtain ⟨p, l, e, R, s, m, args, below, meth, c, D, dA, A, φ0, σ0⟩ := K
    intro r σ' ho
    cases ho
  | some i => exact k i rfl
theorem J_elim {r : Option Nat} {o2 : Nat → Option (α × zS)} (k1 : r = none → zJ w nL K Qf cl sl pc L S σ o) (k2 : ∀ i, r = some i → zJ w nL K Qf cl sl pc L S σ (o2 i)) : zJ w nL K Qf cl sl pc L S σ (r.elim o o2) := by
  cases r with
  | none => exact k1 rfl
  | some i => exact k2 i rfl
theorem J_none : zJ w nL K Qf cl sl pc L S σ none := by
  obtain ⟨p, l, e, R, s, m, args, below, meth, c, D, dA, A, φ0, σ0⟩ := K
  intro r σ' ho
  cases ho
theorem J_nm {v : Int} {kk : Int → Option (α × zS)} (k : ∀ x : Int, zJ w nL K Qf cl sl pc L (.inl x :: S) σ (kk x)) : zJ w nL K Qf cl sl pc L (.inl v :: S) σ (nm_ v kk) := k v
theorem J_nmR {t : Nat} {v : Option Nat} {kk : Option Nat → Option (α × zS)} (k : ∀ x : Option Nat, zJ w nL K Qf cl sl pc L (.inr (t, x) :: S) σ (kk x)) : zJ w nL K Qf cl sl pc L (.inr (t, v) :: S) σ (nm_ v kk) := k v
theorem J_tag {t t' : Nat} (k : zJ w nL K Qf cl sl pc L (.inr (t', none) :: S) σ o) : zJ w nL K Qf cl sl pc L (.inr (t, none) :: S) σ o := by
  obtain ⟨p, l, e, R, s, m, args, below, meth, c, D, dA, A, φ0, σ0⟩ := K
  intro r σ' ho φ H locs ls hR hE hS hl hL hV
  refine k r σ' ho φ H locs ls hR hE hS hl hL fun v hv => ?_
  rcases List.mem_cons.mp hv with rfl | hv
  · exact fun i hi => by cases hi
  · exact hV v (List.mem_cons_of_mem _ hv)
theorem J_widen {cl' sl' : Nat} (h1 : cl ≤ cl') (h2 : sl ≤ sl') (k : zJ w nL K Qf cl' sl' pc L S σ o) : zJ w nL K Qf cl sl pc L S σ o := by
  obtain ⟨p, l, e, R, s, m, args, below, meth, c, D, dA, A, φ0, σ0⟩ := K
  intro r σ' ho φ H locs ls hR hE hS hl hL hV
  exact W.widen h1 h2 (k r σ' ho φ H locs ls hR hE hS hl hL hV)
/-! constants, locals, stack -/
theorem hd_ok {v : zV} (h : ∀ x ∈ v :: S, zok σ x) : zok σ v ∧ ∀ x ∈ S, zok σ x := ⟨h v List.mem_cons_self, fun x hx => h x (List.mem_cons_of_mem _ hx)⟩
theorem tl_ok {v : zV} (h1 : zok σ v) (h : ∀ x ∈ S, zok σ x) : ∀ x ∈ v :: S, zok σ x := by
  intro x hx
  rcases List.mem_cons.mp hx with rfl | hx
  · exact h1
  · exact h x hx
theorem J_iconst (C : zC w nL K own cc nm ret fr lo mc ms) {n : Int} (hd : decode cc pc = .ok (.iconst n, 1)) (hz : zin n) (k : zJ w nL K Qf cl sl (pc + 1) L (.inl n :: S) σ o) : zJ w nL K Qf cl sl pc L S σ o := by
  obtain ⟨p, l, e, R, s, m, args, below, meth, c, D, dA, A, φ0, σ0⟩ := K
  obtain ⟨hx, hb, -⟩ := C
  intro r σ' ho φ H locs ls hR hE hS hl hL hV
  exact lv_iconst (v := zI n) hx hb hd rfl (k r σ' ho φ H locs ls hR hE hS hl hL (tl_ok hz hV))
theorem J_bipush (C : zC w nL K own cc nm ret fr lo mc ms) {n : Int} (hd : decode cc pc = .ok (.bipush n, 2)) (hz : zin n) (hn : (Int8.ofInt n).toInt32 = zI n) (k : zJ w nL K Qf cl sl (pc + 2) L (.inl n :: S) σ o) : zJ w nL K Qf cl sl pc L S σ o := by
  obtain ⟨p, l, e, R, s, m, args, below, meth, c, D, dA, A, φ0, σ0⟩ := K
  obtain ⟨hx, hb, -⟩ := C
  intro r σ' ho φ H locs ls hR hE hS hl hL hV
  exact lv_bipush (v := zI n) hx hb hd hn (k r σ' ho φ H locs ls hR hE hS hl hL (tl_ok hz hV))
theorem J_sipush (C : zC w nL K own cc nm ret fr lo mc ms) {n : Int} (hd : decode cc pc = .ok (.sipush n, 3)) (hz : zin n) (hn : (Int16.ofInt n).toInt32 = zI n) (k : zJ w nL K Qf cl sl (pc + 3) L (.inl n :: S) σ o) : zJ w nL K Qf cl sl pc L S σ o := by
  obtain ⟨p, l, e, R, s, m, args, below, meth, c, D, dA, A, φ0, σ0⟩ := K
  obtain ⟨hx, hb, -⟩ := C
  intro r σ' ho φ H locs ls hR hE hS hl hL hV
  exact lv_sipush (v := zI n) hx hb hd hn (k r σ' ho φ H locs ls hR hE hS hl hL (tl_ok hz hV))
theorem J_ldc (C : zC w nL K own cc nm ret fr lo mc ms) {n : Int} {ix : Nat} (hd : decode cc pc = .ok (.ldc ix, 2)) (hz : zin n) (hq : Cond.constant own ix (zI n) ∈ zT) (k : zJ w nL K Qf cl sl (pc + 2) L (.inl n :: S) σ o) : zJ w nL K Qf cl sl pc L S σ o := by
  obtain ⟨p, l, e, R, s, m, args, below, meth, c, D, dA, A, φ0, σ0⟩ := K
  obtain ⟨hx, hb, hml, hown, hts, -⟩ := C
  intro r σ' ho φ H locs ls hR hE hS hl hL hV
  exact lv_ldc hx hb hown (hts _ hq) hd (k r σ' ho φ H locs ls hR hE hS hl hL (tl_ok hz hV))
theorem J_null (t : Nat) (C : zC w nL K own cc nm ret fr lo mc ms) (hd : decode cc pc = .ok (.aconst_null, 1)) (k : zJ w nL K Qf cl sl (pc + 1) L (.inr (t, none) :: S) σ o) : zJ w nL K Qf cl sl pc L S σ o := by
  obtain ⟨p, l, e, R, s, m, args, below, meth, c, D, dA, A, φ0, σ0⟩ := K
  obtain ⟨hx, hb, -⟩ := C
  intro r σ' ho φ H locs ls hR hE hS hl hL hV
  exact lv_null hx hb hd (k r σ' ho φ H locs ls hR hE hS hl hL (tl_ok (fun i hi => by cases hi) hV))
theorem J_iload_n (C : zC w nL K own cc nm ret fr lo mc ms) {j : Fin 4} (q : Nat) {x : Int} (hd : decode cc pc = .ok (.iload_n j, 1)) (hq : L[q]? = some ((j : Nat), .inl x)) (k : zJ w nL K Qf cl sl (pc + 1) L (.inl x :: S) σ o) : zJ w nL K Qf cl sl pc L S σ o := by
  obtain ⟨p, l, e, R, s, m, args, below, meth, c, D, dA, A, φ0, σ0⟩ := K
  obtain ⟨hx, hb, -⟩ := C
  intro r σ' ho φ H locs ls hR hE hS hl hL hV
  exact lv_iload_n (x := zI x) hx hb hd rfl (zhas_at hl hq) (k r σ' ho φ H locs ls hR hE hS hl hL (tl_ok (hL _ (List.mem_of_getElem? hq)) hV))
theorem J_iload (C : zC w nL K own cc nm ret fr lo mc ms) {j : Nat} (q : Nat) {x : Int} (hd : decode cc pc = .ok (.iload j, 2)) (hq : L[q]? = some (j, .inl x)) (k : zJ w nL K Qf cl sl (pc + 2) L (.inl x :: S) σ o) : zJ w nL K Qf cl sl pc L S σ o := by
  obtain ⟨p, l, e, R, s, m, args, below, meth, c, D, dA, A, φ0, σ0⟩ := K
  obtain ⟨hx, hb, -⟩ := C
  intro r σ' ho φ H locs ls hR hE hS hl hL hV
  exact lv_iload (x := zI x) hx hb hd (zhas_at hl hq) (k r σ' ho φ H locs ls hR hE hS hl hL (tl_ok (hL _ (List.mem_of_getElem? hq)) hV))
theorem J_aload_n (C : zC w nL K own cc nm ret fr lo mc ms) {j : Fin 4} (q : Nat) {t : Nat} {x : Option Nat} (hd : decode cc pc = .ok (.aload_n j, 1)) (hq : L[q]? = some ((j : Nat), .inr (t, x))) (k : zJ w nL K Qf cl sl (pc + 1) L (.inr (t, x) :: S) σ o) : zJ w nL K Qf cl sl pc L S σ o := by
  obtain ⟨p, l, e, R, s, m, args, below, meth, c, D, dA, A, φ0, σ0⟩ := K
  obtain ⟨hx, hb, -⟩ := C
  intro r σ' ho φ H locs ls hR hE hS hl hL hV
  have k1 := k r σ' ho φ H locs ls hR hE hS hl hL (tl_ok (hL _ (List.mem_of_getElem? hq)) hV)
  have h1 := zhas_at hl hq
  cases x with
  | none => exact lv_aload_nN hx hb hd rfl h1 k1
  | some i => exact lv_aload_n hx hb hd rfl h1 k1
theorem J_aload (C : zC w nL K own cc nm ret fr lo mc ms) {j : Nat} (q : Nat) {t : Nat} {x : Option Nat} (hd : decode cc pc = .ok (.aload j, 2)) (hq : L[q]? = some (j, .inr (t, x))) (k : zJ w nL K Qf cl sl (pc + 2) L (.inr (t, x) :: S) σ o) : zJ w nL K Qf cl sl pc L S σ o := by
  obtain ⟨p, l, e, R, s, m, args, below, meth, c, D, dA, A, φ0, σ0⟩ := K
  obtain ⟨hx, hb, -⟩ := C
  intro r σ' ho φ H locs ls hR hE hS hl hL hV
  have k1 := k r σ' ho φ H locs ls hR hE hS hl hL (tl_ok (hL _ (List.mem_of_getElem? hq)) hV)
  have h1 := zhas_at hl hq
  cases x with
  | none => exact lv_aloadN hx hb hd h1 k1
  | some i => exact lv_aload hx hb hd h1 k1
theorem J_istore_n (C : zC w nL K own cc nm ret fr lo mc ms) {j : Fin 4} {x : Int} (hd : decode cc pc = .ok (.istore_n j, 1)) (hj : (j : Nat) < nL) (h : zput L j (.inl x) = L') (k : zJ w nL K Qf cl sl (pc + 1) L' S σ o) : zJ w nL K Qf cl sl pc L (.inl x :: S) σ o := by
  obtain ⟨p, l, e, R, s, m, args, below, meth, c, D, dA, A, φ0, σ0⟩ := K
  obtain ⟨hx, hb, -⟩ := C
  intro r σ' ho φ H locs ls hR hE hS hl hL hV
  subst h
  obtain ⟨hv, hV⟩ := hd_ok hV
  exact lv_istore_n hx hb hd rfl hl hj rfl fun ls' hl' => k r σ' ho φ H locs ls' hR hE hS (zput_has rfl hl') (zput_ok hL hv) hV
theorem J_istore (C : zC w nL K own cc nm ret fr lo mc ms) {j : Nat} {x : Int} (hd : decode cc pc = .ok (.istore j, 2)) (hj : j < nL) (h : zput L j (.inl x) = L') (k : zJ w nL K Qf cl sl (pc + 2) L' S σ o) : zJ w nL K Qf cl sl pc L (.inl x :: S) σ o := by
  obtain ⟨p, l, e, R, s, m, args, below, meth, c, D, dA, A, φ0, σ0⟩ := K
  obtain ⟨hx, hb, -⟩ := C
  intro r σ' ho φ H locs ls hR hE hS hl hL hV
  subst h
  obtain ⟨hv, hV⟩ := hd_ok hV
  exact lv_istore hx hb hd hl hj rfl fun ls' hl' => k r σ' ho φ H locs ls' hR hE hS (zput_has rfl hl') (zput_ok hL hv) hV
theorem J_astore_n (C : zC w nL K own cc nm ret fr lo mc ms) {j : Fin 4} {t : Nat} {x : Option Nat} (hd : decode cc pc = .ok (.astore_n j, 1)) (hj : (j : Nat) < nL) (h : zput L j (.inr (t, x)) = L') (k : zJ w nL K Qf cl sl (pc + 1) L' S σ o) : zJ w nL K Qf cl sl pc L (.inr (t, x) :: S) σ o := by
  obtain ⟨p, l, e, R, s, m, args, below, meth, c, D, dA, A, φ0, σ0⟩ := K
  obtain ⟨hx, hb, -⟩ := C
  intro r σ' ho φ H locs ls hR hE hS hl hL hV
  subst h
  have hv := (hd_ok hV).1
  have hV2 := (hd_ok hV).2
  cases x with
  | none => exact lv_astore_nN hx hb hd rfl hl hj rfl fun ls' hl' => k r σ' ho φ H locs ls' hR hE hS (zput_has rfl hl') (zput_ok hL hv) hV2
  | some i => exact lv_astore_n hx hb hd rfl hl hj rfl fun ls' hl' => k r σ' ho φ H locs ls' hR hE hS (zput_has rfl hl') (zput_ok hL hv) hV2
theorem J_astore (C : zC w nL K own cc nm ret fr lo mc ms) {j : Nat} {t : Nat} {x : Option Nat} (hd : decode cc pc = .ok (.astore j, 2)) (hj : j < nL) (h : zput L j (.inr (t, x)) = L') (k : zJ w nL K Qf cl sl (pc + 2) L' S σ o) : zJ w nL K Qf cl sl pc L (.inr (t, x) :: S) σ o := by
  obtain ⟨p, l, e, R, s, m, args, below, meth, c, D, dA, A, φ0, σ0⟩ := K
  obtain ⟨hx, hb, -⟩ := C
  intro r σ' ho φ H locs ls hR hE hS hl hL hV
  subst h
  have hv := (hd_ok hV).1
  have hV2 := (hd_ok hV).2
  cases x with
  | none => exact lv_astoreN hx hb hd hl hj rfl fun ls' hl' => k r σ' ho φ H locs ls' hR hE hS (zput_has rfl hl') (zput_ok hL hv) hV2
  | some i => exact lv_astore hx hb hd hl hj rfl fun ls' hl' => k r σ' ho φ H locs ls' hR hE hS (zput_has rfl hl') (zput_ok hL hv) hV2
theorem J_iinc (C : zC w nL K own cc nm ret fr lo mc ms) {j : Nat} (q : Nat) {x n : Int} {kk : Int → Option (α × zS)} (hd : decode cc pc = .ok (.iinc j n, 3)) (hz : zin n) (hj : j < nL) (hq : L[q]? = some (j, .inl x)) (k : ∀ y : Int, zJ w nL K Qf cl sl (pc + 3) (zput L j (.inl y)) S σ (kk y)) : zJ w nL K Qf cl sl pc L S σ (nm_ (wr (x + n)) kk) := by
  have k := k (wr (x + n))
  obtain ⟨p, l, e, R, s, m, args, below, meth, c, D, dA, A, φ0, σ0⟩ := K
  obtain ⟨hx, hb, -⟩ := C
  intro r σ' ho φ H locs ls hR hE hS hl hL hV
  have hxx : zin x := hL _ (List.mem_of_getElem? hq)
  refine lv_iinc (k := q) (x := zI x) (v := zI (wr (x + n))) hx hb hd hl (by rw [List.getElem?_map, hq]; rfl) (zI_add hxx hz) hj rfl fun ls' hl' => ?_
  exact k r σ' ho φ H locs ls' hR hE hS (zput_has rfl hl') (zput_ok hL (wr_in _)) hV
theorem J_dup (C : zC w nL K own cc nm ret fr lo mc ms) {v : zV} (hd : decode cc pc = .ok (.dup, 1)) (k : zJ w nL K Qf cl sl (pc + 1) L (v :: v :: S) σ o) : zJ w nL K Qf cl sl pc L (v :: S) σ o := by
  obtain ⟨p, l, e, R, s, m, args, below, meth, c, D, dA, A, φ0, σ0⟩ := K
  obtain ⟨hx, hb, -⟩ := C
  intro r σ' ho φ H locs ls hR hE hS hl hL hV
  exact lv_dup hx hb hd (zcv_cat _ _) (k r σ' ho φ H locs ls hR hE hS hl hL (tl_ok (hd_ok hV).1 hV))
theorem J_pop (C : zC w nL K own cc nm ret fr lo mc ms) {v : zV} (hd : decode cc pc = .ok (.pop, 1)) (k : zJ w nL K Qf cl sl (pc + 1) L S σ o) : zJ w nL K Qf cl sl pc L (v :: S) σ o := by
  obtain ⟨p, l, e, R, s, m, args, below, meth, c, D, dA, A, φ0, σ0⟩ := K
  obtain ⟨hx, hb, -⟩ := C
  intro r σ' ho φ H locs ls hR hE hS hl hL hV
  exact lv_pop hx hb hd (zcv_cat _ _) (k r σ' ho φ H locs ls hR hE hS hl hL (hd_ok hV).2)
theorem J_dup2 (C : zC w nL K own cc nm ret fr lo mc ms) {v u : zV} (hd : decode cc pc = .ok (.dup2, 1)) (k : zJ w nL K Qf cl sl (pc + 1) L (v :: u :: v :: u :: S) σ o) : zJ w nL K Qf cl sl pc L (v :: u :: S) σ o := by
  obtain ⟨p, l, e, R, s, m, args, below, meth, c, D, dA, A, φ0, σ0⟩ := K
  obtain ⟨hx, hb, -⟩ := C
  intro r σ' ho φ H locs ls hR hE hS hl hL hV
  exact lv_dup2_11 hx hb hd (zcv_cat _ _) (zcv_cat _ _) (k r σ' ho φ H locs ls hR hE hS hl hL (tl_ok (hd_ok hV).1 (tl_ok (hd_ok (hd_ok hV).2).1 hV)))
/-! arithmetic -/
theorem J_iadd (C : zC w nL K own cc nm ret fr lo mc ms) {a b : Int} (hd : decode cc pc = .ok (.iadd, 1)) (k : zJ w nL K Qf cl sl (pc + 1) L (.inl (wr (a + b)) :: S) σ o) : zJ w nL K Qf cl sl pc L (.inl b :: .inl a :: S) σ o := by
  obtain ⟨p, l, e, R, s, m, args, below, meth, c, D, dA, A, φ0, σ0⟩ := K
  obtain ⟨hx, hb, -⟩ := C
  intro r σ' ho φ H locs ls hR hE hS hl hL hV
  obtain ⟨hv, hV⟩ := hd_ok hV
  obtain ⟨hu, hV⟩ := hd_ok hV
  refine lv_iadd (x := zI a) (y := zI b) hx hb hd ?_
  rw [zI_add hu hv]
  exact k r σ' ho φ H locs ls hR hE hS hl hL (tl_ok (wr_in _) hV)
theorem J_isub (C : zC w nL K own cc nm ret fr lo mc ms) {a b : Int} (hd : decode cc pc = .ok (.isub, 1)) (k : zJ w nL K Qf cl sl (pc + 1) L (.inl (wr (a - b)) :: S) σ o) : zJ w nL K Qf cl sl pc L (.inl b :: .inl a :: S) σ o := by
  obtain ⟨p, l, e, R, s, m, args, below, meth, c, D, dA, A, φ0, σ0⟩ := K
  obtain ⟨hx, hb, -⟩ := C
  intro r σ' ho φ H locs ls hR hE hS hl hL hV
  obtain ⟨hv, hV⟩ := hd_ok hV
  obtain ⟨hu, hV⟩ := hd_ok hV
  refine lv_isub (x := zI a) (y := zI b) hx hb hd ?_
  rw [zI_sub hu hv]
  exact k r σ' ho φ H locs ls hR hE hS hl hL (tl_ok (wr_in _) hV)
theorem J_imul (C : zC w nL K own cc nm ret fr lo mc ms) {a b : Int} (hd : decode cc pc = .ok (.imul, 1)) (k : zJ w nL K Qf cl sl (pc + 1) L (.inl (wr (a * b)) :: S) σ o) : zJ w nL K Qf cl sl pc L (.inl b :: .inl a :: S) σ o := by
  obtain ⟨p, l, e, R, s, m, args, below, meth, c, D, dA, A, φ0, σ0⟩ := K
  obtain ⟨hx, hb, -⟩ := C
  intro r σ' ho φ H locs ls hR hE hS hl hL hV
  obtain ⟨hv, hV⟩ := hd_ok hV
  obtain ⟨hu, hV⟩ := hd_ok hV
  refine lv_imul (x := zI a) (y := zI b) hx hb hd ?_
  rw [zI_mul hu hv]
  exact k r σ' ho φ H locs ls hR hE hS hl hL (tl_ok (wr_in _) hV)
theorem J_idiv (C : zC w nL K own cc nm ret fr lo mc ms) {a b : Int} (hd : decode cc pc = .ok (.idiv, 1)) (h0 : b ≠ 0) (k : zJ w nL K Qf cl sl (pc + 1) L (.inl (wr (a.tdiv b)) :: S) σ o) : zJ w nL K Qf cl sl pc L (.inl b :: .inl a :: S) σ o := by
  obtain ⟨p, l, e, R, s, m, args, below, meth, c, D, dA, A, φ0, σ0⟩ := K
  obtain ⟨hx, hb, -⟩ := C
  intro r σ' ho φ H locs ls hR hE hS hl hL hV
  obtain ⟨hv, hV⟩ := hd_ok hV
  obtain ⟨hu, hV⟩ := hd_ok hV
  refine lv_idiv (x := zI a) (y := zI b) hx hb hd (fun h => h0 ((zI_inj hv zin0).mp (h.trans zI0.symm))) ?_
  rw [zI_div hu hv]
  exact k r σ' ho φ H locs ls hR hE hS hl hL (tl_ok (wr_in _) hV)
theorem J_irem (C : zC w nL K own cc nm ret fr lo mc ms) {a b : Int} (hd : decode cc pc = .ok (.irem, 1)) (h0 : b ≠ 0) (k : zJ w nL K Qf cl sl (pc + 1) L (.inl (a.tmod b) :: S) σ o) : zJ w nL K Qf cl sl pc L (.inl b :: .inl a :: S) σ o := by
  obtain ⟨p, l, e, R, s, m, args, below, meth, c, D, dA, A, φ0, σ0⟩ := K
  obtain ⟨hx, hb, -⟩ := C
  intro r σ' ho φ H locs ls hR hE hS hl hL hV
  obtain ⟨hv, hV⟩ := hd_ok hV
  obtain ⟨hu, hV⟩ := hd_ok hV
  refine lv_irem (x := zI a) (y := zI b) hx hb hd (fun h => h0 ((zI_inj hv zin0).mp (h.trans zI0.symm))) ?_
  rw [zI_rem hu hv h0]
  exact k r σ' ho φ H locs ls hR hE hS hl hL (tl_ok (zin_tmod hu h0) hV)
/-! jumps -/
theorem J_goto (C : zC w nL K own cc nm ret fr lo mc ms) {off : Int} (tgt : Nat) (hd : decode cc pc = .ok (.goto off, 3)) (ht : (pc : Int) + off = (tgt : Int)) (k : zJ w nL K Qf cl sl tgt L S σ o) : zJ w nL K Qf cl sl pc L S σ o := by
  obtain ⟨p, l, e, R, s, m, args, below, meth, c, D, dA, A, φ0, σ0⟩ := K
  obtain ⟨hx, hb, -⟩ := C
  intro r σ' ho φ H locs ls hR hE hS hl hL hV
  exact lv_goto hx hb hd ht (k r σ' ho φ H locs ls hR hE hS hl hL hV)
theorem J_if_eq (C : zC w nL K own cc nm ret fr lo mc ms) {off : Int} {z : Int} {o2 : Option (α × zS)} (tgt : Nat) (hd : decode cc pc = .ok (.ifCond .eq off, 3)) (ht : (pc : Int) + off = (tgt : Int)) (k1 : z = 0 → zJ w nL K Qf cl sl tgt L S σ o) (k2 : ¬ (z = 0) → zJ w nL K Qf cl sl (pc + 3) L S σ o2) : zJ w nL K Qf cl sl pc L (.inl z :: S) σ (if z = 0 then o else o2) := by
  obtain ⟨p, l, e, R, s, m, args, below, meth, c, D, dA, A, φ0, σ0⟩ := K
  obtain ⟨hx, hb, -⟩ := C
  intro r σ' ho φ H locs ls hR hE hS hl hL hV
  obtain ⟨hv, hV⟩ := hd_ok hV
  have hv : zin z := hv
  have E := (zI_inj hv zin0)
  rw [zI0] at E
  refine lv_if_eq (x := zI z) hx hb hd ht (fun q => ?_) (fun q => ?_)
  · have h : z = 0 := E.mp q
    rw [if_pos h] at ho
    exact k1 h r σ' ho φ H locs ls hR hE hS hl hL hV
  · have h : ¬ (z = 0) := fun z2 => q (E.mpr z2)
    rw [if_neg h] at ho
    exact k2 h r σ' ho φ H locs ls hR hE hS hl hL hV
theorem J_if_ne (C : zC w nL K own cc nm ret fr lo mc ms) {off : Int} {z : Int} {o2 : Option (α × zS)} (tgt : Nat) (hd : decode cc pc = .ok (.ifCond .ne off, 3)) (ht : (pc : Int) + off = (tgt : Int)) (k1 : ¬ (z = 0) → zJ w nL K Qf cl sl tgt L S σ o) (k2 : z = 0 → zJ w nL K Qf cl sl (pc + 3) L S σ o2) : zJ w nL K Qf cl sl pc L (.inl z :: S) σ (if z = 0 then o2 else o) := by
  obtain ⟨p, l, e, R, s, m, args, below, meth, c, D, dA, A, φ0, σ0⟩ := K
  obtain ⟨hx, hb, -⟩ := C
  intro r σ' ho φ H locs ls hR hE hS hl hL hV
  obtain ⟨hv, hV⟩ := hd_ok hV
  have hv : zin z := hv
  have E := (zI_inj hv zin0)
  rw [zI0] at E
  refine lv_if_ne (x := zI z) hx hb hd ht (fun q => ?_) (fun q => ?_)
  · have h : ¬ (z = 0) := fun z2 => q (E.mpr z2)
    rw [if_neg h] at ho
    exact k1 h r σ' ho φ H locs ls hR hE hS hl hL hV
  · have h : z = 0 := E.mp q
    rw [if_pos h] at ho
    exact k2 h r σ' ho φ H locs ls hR hE hS hl hL hV
theorem J_if_lt (C : zC w nL K own cc nm ret fr lo mc ms) {off : Int} {z : Int} {o2 : Option (α × zS)} (tgt : Nat) (hd : decode cc pc = .ok (.ifCond .lt off, 3)) (ht : (pc : Int) + off = (tgt : Int)) (k1 : z < 0 → zJ w nL K Qf cl sl tgt L S σ o) (k2 : ¬ (z < 0) → zJ w nL K Qf cl sl (pc + 3) L S σ o2) : zJ w nL K Qf cl sl pc L (.inl z :: S) σ (if z < 0 then o else o2) := by
  obtain ⟨p, l, e, R, s, m, args, below, meth, c, D, dA, A, φ0, σ0⟩ := K
  obtain ⟨hx, hb, -⟩ := C
  intro r σ' ho φ H locs ls hR hE hS hl hL hV
  obtain ⟨hv, hV⟩ := hd_ok hV
  have hv : zin z := hv
  have E := (zI_lt hv zin0)
  rw [zI0] at E
  refine lv_if_lt (x := zI z) hx hb hd ht (fun q => ?_) (fun q => ?_)
  · have h : z < 0 := E.mp q
    rw [if_pos h] at ho
    exact k1 h r σ' ho φ H locs ls hR hE hS hl hL hV
  · have h : ¬ (z < 0) := fun z2 => q (E.mpr z2)
    rw [if_neg h] at ho
    exact k2 h r σ' ho φ H locs ls hR hE hS hl hL hV
theorem J_if_ge (C : zC w nL K own cc nm ret fr lo mc ms) {off : Int} {z : Int} {o2 : Option (α × zS)} (tgt : Nat) (hd : decode cc pc = .ok (.ifCond .ge off, 3)) (ht : (pc : Int) + off = (tgt : Int)) (k1 : ¬ (z < 0) → zJ w nL K Qf cl sl tgt L S σ o) (k2 : z < 0 → zJ w nL K Qf cl sl (pc + 3) L S σ o2) : zJ w nL K Qf cl sl pc L (.inl z :: S) σ (if z < 0 then o2 else o) := by
  obtain ⟨p, l, e, R, s, m, args, below, meth, c, D, dA, A, φ0, σ0⟩ := K
  obtain ⟨hx, hb, -⟩ := C
  intro r σ' ho φ H locs ls hR hE hS hl hL hV
  obtain ⟨hv, hV⟩ := hd_ok hV
  have hv : zin z := hv
  have E := (zI_le zin0 hv)
  rw [zI0] at E
  refine lv_if_ge (x := zI z) hx hb hd ht (fun q => ?_) (fun q => ?_)
  · have h : ¬ (z < 0) := Int.not_lt.mpr (E.mp q)
    rw [if_neg h] at ho
    exact k1 h r σ' ho φ H locs ls hR hE hS hl hL hV
  · have h : z < 0 := Int.not_le.mp fun z2 => q (E.mpr z2)
    rw [if_pos h] at ho
    exact k2 h r σ' ho φ H locs ls hR hE hS hl hL hV
theorem J_if_gt (C : zC w nL K own cc nm ret fr lo mc ms) {off : Int} {z : Int} {o2 : Option (α × zS)} (tgt : Nat) (hd : decode cc pc = .ok (.ifCond .gt off, 3)) (ht : (pc : Int) + off = (tgt : Int)) (k1 : 0 < z → zJ w nL K Qf cl sl tgt L S σ o) (k2 : ¬ (0 < z) → zJ w nL K Qf cl sl (pc + 3) L S σ o2) : zJ w nL K Qf cl sl pc L (.inl z :: S) σ (if 0 < z then o else o2) := by
  obtain ⟨p, l, e, R, s, m, args, below, meth, c, D, dA, A, φ0, σ0⟩ := K
  obtain ⟨hx, hb, -⟩ := C
  intro r σ' ho φ H locs ls hR hE hS hl hL hV
  obtain ⟨hv, hV⟩ := hd_ok hV
  have hv : zin z := hv
  have E := (zI_lt zin0 hv)
  rw [zI0] at E
  refine lv_if_gt (x := zI z) hx hb hd ht (fun q => ?_) (fun q => ?_)
  · have h : 0 < z := E.mp q
    rw [if_pos h] at ho
    exact k1 h r σ' ho φ H locs ls hR hE hS hl hL hV
  · have h : ¬ (0 < z) := fun z2 => q (E.mpr z2)
    rw [if_neg h] at ho
    exact k2 h r σ' ho φ H locs ls hR hE hS hl hL hV
theorem J_if_le (C : zC w nL K own cc nm ret fr lo mc ms) {off : Int} {z : Int} {o2 : Option (α × zS)} (tgt : Nat) (hd : decode cc pc = .ok (.ifCond .le off, 3)) (ht : (pc : Int) + off = (tgt : Int)) (k1 : ¬ (0 < z) → zJ w nL K Qf cl sl tgt L S σ o) (k2 : 0 < z → zJ w nL K Qf cl sl (pc + 3) L S σ o2) : zJ w nL K Qf cl sl pc L (.inl z :: S) σ (if 0 < z then o2 else o) := by
  obtain ⟨p, l, e, R, s, m, args, below, meth, c, D, dA, A, φ0, σ0⟩ := K
  obtain ⟨hx, hb, -⟩ := C
  intro r σ' ho φ H locs ls hR hE hS hl hL hV
  obtain ⟨hv, hV⟩ := hd_ok hV
  have hv : zin z := hv
  have E := (zI_le hv zin0)
  rw [zI0] at E
  refine lv_if_le (x := zI z) hx hb hd ht (fun q => ?_) (fun q => ?_)
  · have h : ¬ (0 < z) := Int.not_lt.mpr (E.mp q)
    rw [if_neg h] at ho
    exact k1 h r σ' ho φ H locs ls hR hE hS hl hL hV
  · have h : 0 < z := Int.not_le.mp fun z2 => q (E.mpr z2)
    rw [if_pos h] at ho
    exact k2 h r σ' ho φ H locs ls hR hE hS hl hL hV
theorem J_ic_eq (C : zC w nL K own cc nm ret fr lo mc ms) {off : Int} {a b : Int} {o2 : Option (α × zS)} (tgt : Nat) (hd : decode cc pc = .ok (.if_icmp .eq off, 3)) (ht : (pc : Int) + off = (tgt : Int)) (k1 : a = b → zJ w nL K Qf cl sl tgt L S σ o) (k2 : ¬ (a = b) → zJ w nL K Qf cl sl (pc + 3) L S σ o2) : zJ w nL K Qf cl sl pc L (.inl b :: .inl a :: S) σ (if a = b then o else o2) := by
  obtain ⟨p, l, e, R, s, m, args, below, meth, c, D, dA, A, φ0, σ0⟩ := K
  obtain ⟨hx, hb, -⟩ := C
  intro r σ' ho φ H locs ls hR hE hS hl hL hV
  obtain ⟨hv, hV⟩ := hd_ok hV
  obtain ⟨hu, hV⟩ := hd_ok hV
  have hu : zin a := hu
  have hv : zin b := hv
  have E := (zI_inj hu hv)
  refine lv_icmp_eq (x := zI a) (y := zI b) hx hb hd ht (fun q => ?_) (fun q => ?_)
  · have h : a = b := E.mp q
    rw [if_pos h] at ho
    exact k1 h r σ' ho φ H locs ls hR hE hS hl hL hV
  · have h : ¬ (a = b) := fun z2 => q (E.mpr z2)
    rw [if_neg h] at ho
    exact k2 h r σ' ho φ H locs ls hR hE hS hl hL hV
theorem J_ic_ne (C : zC w nL K own cc nm ret fr lo mc ms) {off : Int} {a b : Int} {o2 : Option (α × zS)} (tgt : Nat) (hd : decode cc pc = .ok (.if_icmp .ne off, 3)) (ht : (pc : Int) + off = (tgt : Int)) (k1 : ¬ (a = b) → zJ w nL K Qf cl sl tgt L S σ o) (k2 : a = b → zJ w nL K Qf cl sl (pc + 3) L S σ o2) : zJ w nL K Qf cl sl pc L (.inl b :: .inl a :: S) σ (if a = b then o2 else o) := by
  obtain ⟨p, l, e, R, s, m, args, below, meth, c, D, dA, A, φ0, σ0⟩ := K
  obtain ⟨hx, hb, -⟩ := C
  intro r σ' ho φ H locs ls hR hE hS hl hL hV
  obtain ⟨hv, hV⟩ := hd_ok hV
  obtain ⟨hu, hV⟩ := hd_ok hV
  have hu : zin a := hu
  have hv : zin b := hv
  have E := (zI_inj hu hv)
  refine lv_icmp_ne (x := zI a) (y := zI b) hx hb hd ht (fun q => ?_) (fun q => ?_)
  · have h : ¬ (a = b) := fun z2 => q (E.mpr z2)
    rw [if_neg h] at ho
    exact k1 h r σ' ho φ H locs ls hR hE hS hl hL hV
  · have h : a = b := E.mp q
    rw [if_pos h] at ho
    exact k2 h r σ' ho φ H locs ls hR hE hS hl hL hV
theorem J_ic_lt (C : zC w nL K own cc nm ret fr lo mc ms) {off : Int} {a b : Int} {o2 : Option (α × zS)} (tgt : Nat) (hd : decode cc pc = .ok (.if_icmp .lt off, 3)) (ht : (pc : Int) + off = (tgt : Int)) (k1 : a < b → zJ w nL K Qf cl sl tgt L S σ o) (k2 : ¬ (a < b) → zJ w nL K Qf cl sl (pc + 3) L S σ o2) : zJ w nL K Qf cl sl pc L (.inl b :: .inl a :: S) σ (if a < b then o else o2) := by
  obtain ⟨p, l, e, R, s, m, args, below, meth, c, D, dA, A, φ0, σ0⟩ := K
  obtain ⟨hx, hb, -⟩ := C
  intro r σ' ho φ H locs ls hR hE hS hl hL hV
  obtain ⟨hv, hV⟩ := hd_ok hV
  obtain ⟨hu, hV⟩ := hd_ok hV
  have hu : zin a := hu
  have hv : zin b := hv
  have E := (zI_lt hu hv)
  refine lv_icmp_lt (x := zI a) (y := zI b) hx hb hd ht (fun q => ?_) (fun q => ?_)
  · have h : a < b := E.mp q
    rw [if_pos h] at ho
    exact k1 h r σ' ho φ H locs ls hR hE hS hl hL hV
  · have h : ¬ (a < b) := fun z2 => q (E.mpr z2)
    rw [if_neg h] at ho
    exact k2 h r σ' ho φ H locs ls hR hE hS hl hL hV
theorem J_ic_ge (C : zC w nL K own cc nm ret fr lo mc ms) {off : Int} {a b : Int} {o2 : Option (α × zS)} (tgt : Nat) (hd : decode cc pc = .ok (.if_icmp .ge off, 3)) (ht : (pc : Int) + off = (tgt : Int)) (k1 : ¬ (a < b) → zJ w nL K Qf cl sl tgt L S σ o) (k2 : a < b → zJ w nL K Qf cl sl (pc + 3) L S σ o2) : zJ w nL K Qf cl sl pc L (.inl b :: .inl a :: S) σ (if a < b then o2 else o) := by
  obtain ⟨p, l, e, R, s, m, args, below, meth, c, D, dA, A, φ0, σ0⟩ := K
  obtain ⟨hx, hb, -⟩ := C
  intro r σ' ho φ H locs ls hR hE hS hl hL hV
  obtain ⟨hv, hV⟩ := hd_ok hV
  obtain ⟨hu, hV⟩ := hd_ok hV
  have hu : zin a := hu
  have hv : zin b := hv
  have E := (zI_le hv hu)
  refine lv_icmp_ge (x := zI a) (y := zI b) hx hb hd ht (fun q => ?_) (fun q => ?_)
  · have h : ¬ (a < b) := Int.not_lt.mpr (E.mp q)
    rw [if_neg h] at ho
    exact k1 h r σ' ho φ H locs ls hR hE hS hl hL hV
  · have h : a < b := Int.not_le.mp fun z2 => q (E.mpr z2)
    rw [if_pos h] at ho
    exact k2 h r σ' ho φ H locs ls hR hE hS hl hL hV
theorem J_ic_gt (C : zC w nL K own cc nm ret fr lo mc ms) {off : Int} {a b : Int} {o2 : Option (α × zS)} (tgt : Nat) (hd : decode cc pc = .ok (.if_icmp .gt off, 3)) (ht : (pc : Int) + off = (tgt : Int)) (k1 : b < a → zJ w nL K Qf cl sl tgt L S σ o) (k2 : ¬ (b < a) → zJ w nL K Qf cl sl (pc + 3) L S σ o2) : zJ w nL K Qf cl sl pc L (.inl b :: .inl a :: S) σ (if b < a then o else o2) := by
  obtain ⟨p, l, e, R, s, m, args, below, meth, c, D, dA, A, φ0, σ0⟩ := K
  obtain ⟨hx, hb, -⟩ := C
  intro r σ' ho φ H locs ls hR hE hS hl hL hV
  obtain ⟨hv, hV⟩ := hd_ok hV
  obtain ⟨hu, hV⟩ := hd_ok hV
  have hu : zin a := hu
  have hv : zin b := hv
  have E := (zI_lt hv hu)
  refine lv_icmp_gt (x := zI a) (y := zI b) hx hb hd ht (fun q => ?_) (fun q => ?_)
  · have h : b < a := E.mp q
    rw [if_pos h] at ho
    exact k1 h r σ' ho φ H locs ls hR hE hS hl hL hV
  · have h : ¬ (b < a) := fun z2 => q (E.mpr z2)
    rw [if_neg h] at ho
    exact k2 h r σ' ho φ H locs ls hR hE hS hl hL hV
theorem J_ic_le (C : zC w nL K own cc nm ret fr lo mc ms) {off : Int} {a b : Int} {o2 : Option (α × zS)} (tgt : Nat) (hd : decode cc pc = .ok (.if_icmp .le off, 3)) (ht : (pc : Int) + off = (tgt : Int)) (k1 : ¬ (b < a) → zJ w nL K Qf cl sl tgt L S σ o) (k2 : b < a → zJ w nL K Qf cl sl (pc + 3) L S σ o2) : zJ w nL K Qf cl sl pc L (.inl b :: .inl a :: S) σ (if b < a then o2 else o) := by
  obtain ⟨p, l, e, R, s, m, args, below, meth, c, D, dA, A, φ0, σ0⟩ := K
  obtain ⟨hx, hb, -⟩ := C
  intro r σ' ho φ H locs ls hR hE hS hl hL hV
  obtain ⟨hv, hV⟩ := hd_ok hV
  obtain ⟨hu, hV⟩ := hd_ok hV
  have hu : zin a := hu
  have hv : zin b := hv
  have E := (zI_le hu hv)
  refine lv_icmp_le (x := zI a) (y := zI b) hx hb hd ht (fun q => ?_) (fun q => ?_)
  · have h : ¬ (b < a) := Int.not_lt.mpr (E.mp q)
    rw [if_neg h] at ho
    exact k1 h r σ' ho φ H locs ls hR hE hS hl hL hV
  · have h : b < a := Int.not_le.mp fun z2 => q (E.mpr z2)
    rw [if_pos h] at ho
    exact k2 h r σ' ho φ H locs ls hR hE hS hl hL hV
theorem J_null_s (C : zC w nL K own cc nm ret fr lo mc ms) {off : Int} {t i : Nat} (hd : decode cc pc = .ok (.ifnull off, 3)) (k : zJ w nL K Qf cl sl (pc + 3) L S σ o) : zJ w nL K Qf cl sl pc L (.inr (t, some i) :: S) σ o := by
  obtain ⟨p, l, e, R, s, m, args, below, meth, c, D, dA, A, φ0, σ0⟩ := K
  obtain ⟨hx, hb, -⟩ := C
  intro r σ' ho φ H locs ls hR hE hS hl hL hV
  exact lv_ifnull hx hb hd (k r σ' ho φ H locs ls hR hE hS hl hL (hd_ok hV).2)
theorem J_null_n (C : zC w nL K own cc nm ret fr lo mc ms) {off : Int} {t : Nat} (tgt : Nat) (hd : decode cc pc = .ok (.ifnull off, 3)) (ht : (pc : Int) + off = (tgt : Int)) (k : zJ w nL K Qf cl sl tgt L S σ o) : zJ w nL K Qf cl sl pc L (.inr (t, none) :: S) σ o := by
  obtain ⟨p, l, e, R, s, m, args, below, meth, c, D, dA, A, φ0, σ0⟩ := K
  obtain ⟨hx, hb, -⟩ := C
  intro r σ' ho φ H locs ls hR hE hS hl hL hV
  exact lv_ifnullN hx hb hd ht (k r σ' ho φ H locs ls hR hE hS hl hL (hd_ok hV).2)
theorem J_nonnull_s (C : zC w nL K own cc nm ret fr lo mc ms) {off : Int} {t i : Nat} (tgt : Nat) (hd : decode cc pc = .ok (.ifnonnull off, 3)) (ht : (pc : Int) + off = (tgt : Int)) (k : zJ w nL K Qf cl sl tgt L S σ o) : zJ w nL K Qf cl sl pc L (.inr (t, some i) :: S) σ o := by
  obtain ⟨p, l, e, R, s, m, args, below, meth, c, D, dA, A, φ0, σ0⟩ := K
  obtain ⟨hx, hb, -⟩ := C
  intro r σ' ho φ H locs ls hR hE hS hl hL hV
  exact lv_ifnonnull hx hb hd ht (k r σ' ho φ H locs ls hR hE hS hl hL (hd_ok hV).2)
theorem J_nonnull_n (C : zC w nL K own cc nm ret fr lo mc ms) {off : Int} {t : Nat} (hd : decode cc pc = .ok (.ifnonnull off, 3)) (k : zJ w nL K Qf cl sl (pc + 3) L S σ o) : zJ w nL K Qf cl sl pc L (.inr (t, none) :: S) σ o := by
  obtain ⟨p, l, e, R, s, m, args, below, meth, c, D, dA, A, φ0, σ0⟩ := K
  obtain ⟨hx, hb, -⟩ := C
  intro r σ' ho φ H locs ls hR hE hS hl hL hV
  exact lv_ifnonnullN hx hb hd (k r σ' ho φ H locs ls hR hE hS hl hL (hd_ok hV).2)
theorem zcv_eq {D : va_G} {dA : Nat → ClassId} {A : Nat → Prop} {φ : zF} {H : Heap} (hR : zRep w D dA A φ σ H) {t : Nat} {a b : Option Nat} (ht : t < 200) (ha : zok σ (.inr (t, a))) (hb : zok σ (.inr (t, b))) : a.map (φ t) = b.map (φ t) ↔ a = b := by
  constructor
  · intro h
    cases a with
    | none => cases b with
      | none => rfl
      | some j => cases h
    | some i => cases b with
      | none => cases h
      | some j =>
        have e : φ t i = φ t j := Option.some.inj h
        have h1 := ha i rfl
        have h2 := hb j rfl
        have h1 : i < σ.1 t := by rcases h1 with h | h <;> omega
        have h2 : j < σ.1 t := by rcases h2 with h | h <;> omega
        rw [(hR.2.1 t i t j ht h1 ht h2 e).2]
  · intro h; rw [h]
theorem J_acmp_eq (C : zC w nL K own cc nm ret fr lo mc ms) {off : Int} {t : Nat} {a b : Option Nat} {o2 : Option (α × zS)} (tgt : Nat) (ht9 : t < 200) (hd : decode cc pc = .ok (.if_acmp .eq off, 3)) (ht : (pc : Int) + off = (tgt : Int)) (k1 : a = b → zJ w nL K Qf cl sl tgt L S σ o) (k2 : ¬ a = b → zJ w nL K Qf cl sl (pc + 3) L S σ o2) : zJ w nL K Qf cl sl pc L (.inr (t, b) :: .inr (t, a) :: S) σ (if a = b then o else o2) := by
  obtain ⟨p, l, e, R, s, m, args, below, meth, c, D, dA, A, φ0, σ0⟩ := K
  obtain ⟨hx, hb, -⟩ := C
  intro r σ' ho φ H locs ls hR hE hS hl hL hV
  obtain ⟨hv, hV⟩ := hd_ok hV
  obtain ⟨hu, hV⟩ := hd_ok hV
  have E := zcv_eq hR ht9 hu hv
  refine lv_acmp_eq (rx := a.map (φ t)) (ry := b.map (φ t)) hx hb hd ht (fun q => ?_) (fun q => ?_)
  · have h := E.mp q
    rw [if_pos h] at ho
    exact k1 h r σ' ho φ H locs ls hR hE hS hl hL hV
  · have h : ¬ a = b := fun z => q (E.mpr z)
    rw [if_neg h] at ho
    exact k2 h r σ' ho φ H locs ls hR hE hS hl hL hV
theorem J_acmp_ne (C : zC w nL K own cc nm ret fr lo mc ms) {off : Int} {t : Nat} {a b : Option Nat} {o2 : Option (α × zS)} (tgt : Nat) (ht9 : t < 200) (hd : decode cc pc = .ok (.if_acmp .ne off, 3)) (ht : (pc : Int) + off = (tgt : Int)) (k1 : ¬ a = b → zJ w nL K Qf cl sl tgt L S σ o) (k2 : a = b → zJ w nL K Qf cl sl (pc + 3) L S σ o2) : zJ w nL K Qf cl sl pc L (.inr (t, b) :: .inr (t, a) :: S) σ (if a = b then o2 else o) := by
  obtain ⟨p, l, e, R, s, m, args, below, meth, c, D, dA, A, φ0, σ0⟩ := K
  obtain ⟨hx, hb, -⟩ := C
  intro r σ' ho φ H locs ls hR hE hS hl hL hV
  obtain ⟨hv, hV⟩ := hd_ok hV
  obtain ⟨hu, hV⟩ := hd_ok hV
  have E := zcv_eq hR ht9 hu hv
  refine lv_acmp_ne (rx := a.map (φ t)) (ry := b.map (φ t)) hx hb hd ht (fun q => ?_) (fun q => ?_)
  · have h : ¬ a = b := fun z => q (E.mpr z)
    rw [if_neg h] at ho
    exact k1 h r σ' ho φ H locs ls hR hE hS hl hL hV
  · have h := E.mp q
    rw [if_pos h] at ho
    exact k2 h r σ' ho φ H locs ls hR hE hS hl hL hV
theorem J_swIn (C : zC w nL K own cc nm ret fr lo mc ms) {dflt lo2 hi2 : Int} {offs : Array Int} {len : Nat} {z off : Int} (tgt : Nat) (hd : decode cc pc = .ok (.tableswitch dflt lo2 hi2 offs, len)) (h1 : ¬ z < lo2) (h2 : ¬ hi2 < z) (ho2 : offs[(z - lo2).toNat]? = some off) (ht : (pc : Int) + off = (tgt : Int)) (k : zJ w nL K Qf cl sl tgt L S σ o) : zJ w nL K Qf cl sl pc L (.inl z :: S) σ o := by
  obtain ⟨p, l, e, R, s, m, args, below, meth, c, D, dA, A, φ0, σ0⟩ := K
  obtain ⟨hx, hb, -⟩ := C
  intro r σ' ho φ H locs ls hR hE hS hl hL hV
  obtain ⟨hv, hV⟩ := hd_ok hV
  have hv : zin z := hv
  exact lv_tableIn (x := zI z) hx hb hd (by rw [zI_toInt hv]; exact h1) (by rw [zI_toInt hv]; exact h2) (by rw [zI_toInt hv]; exact ho2) ht (k r σ' ho φ H locs ls hR hE hS hl hL hV)
theorem J_swOut (C : zC w nL K own cc nm ret fr lo mc ms) {dflt lo2 hi2 : Int} {offs : Array Int} {len : Nat} {z : Int} (tgt : Nat) (hd : decode cc pc = .ok (.tableswitch dflt lo2 hi2 offs, len)) (h : z < lo2 ∨ hi2 < z) (ht : (pc : Int) + dflt = (tgt : Int)) (k : zJ w nL K Qf cl sl tgt L S σ o) : zJ w nL K Qf cl sl pc L (.inl z :: S) σ o := by
  obtain ⟨p, l, e, R, s, m, args, below, meth, c, D, dA, A, φ0, σ0⟩ := K
  obtain ⟨hx, hb, -⟩ := C
  intro r σ' ho φ H locs ls hR hE hS hl hL hV
  obtain ⟨hv, hV⟩ := hd_ok hV
  have hv : zin z := hv
  exact lv_tableOut (x := zI z) hx hb hd (by rw [zI_toInt hv]; exact h) ht (k r σ' ho φ H locs ls hR hE hS hl hL hV)
end JP

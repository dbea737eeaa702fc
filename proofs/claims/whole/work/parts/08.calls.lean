/-! ===== new cells ===== -/
theorem zE_x {w : zW} {dA : Nat → ClassId} {φ φ' : zF} {σ σ' : zS} {t i : Nat} (hv : zRv w σ) (e : zExt φ σ φ' σ') (ht : t < 200) (hi : i < σ.1 t) (h1 : ∀ k, σ'.2.1 t i k = σ.2.1 t i k) (h2 : ∀ k, σ'.2.2 t i k = σ.2.2 t i k) : zE w dA φ' σ' t i = zE w dA φ σ t i := by
  have e2 : ∀ k u, zty w t k = some u → (σ'.2.2 t i k).map (φ' u) = (σ.2.2 t i k).map (φ u) := by
    intro k u hu
    rw [h2]
    cases hr : σ.2.2 t i k with
    | none => rfl
    | some j =>
      obtain ⟨a, b⟩ := hv.2 t i k u j ht hi hu hr
      show some (φ' u j) = some (φ u j)
      rw [e.1 u j (Or.inl ⟨a, b⟩)]
  cases hw : w.1 t with
  | inl q =>
    obtain ⟨ci, N⟩ := q
    have e3 : zfv w φ' σ' t i = zfv w φ σ t i := by
      funext k
      unfold zfv
      cases hk : w.2 t k with
      | none => simp only [h1]
      | some u =>
        simp only []
        rw [e2 k u (by unfold zty; rw [hw]; exact hk)]
    rw [zE_obj hw, zE_obj hw, e3]
  | inr q =>
    obtain ⟨a, L⟩ := q
    cases h0 : w.2 t 0 with
    | none => rw [zE_ints hw h0, zE_ints hw h0]; simp only [h1]
    | some u =>
      rw [zE_refs hw h0, zE_refs hw h0]
      have e3 : (fun j => (σ'.2.2 t i j).map (φ' u)) = fun j => (σ.2.2 t i j).map (φ u) := by
        funext j
        exact e2 j u (by unfold zty; rw [hw]; exact h0)
      rw [e3]
def zFn (φ : zF) (σ : zS) (t q : Nat) : zF := fun t' i' => if t' = t ∧ i' = σ.1 t then q else φ t' i'
theorem zExt_new {φ : zF} {σ : zS} {t q : Nat} (ht : t < 200) : zExt φ σ (zFn φ σ t q) (sN σ t) := by
  refine ⟨fun t' i' h => ?_, fun t' => ?_⟩
  · unfold zFn
    rw [if_neg]
    rintro ⟨rfl, rfl⟩
    rcases h with ⟨-, h⟩ | h <;> omega
  · show σ.1 t' ≤ (if t' = t then σ.1 t + 1 else σ.1 t')
    split
    · rename_i h; subst h; omega
    · exact Nat.le_refl _
theorem zRep_new {w : zW} {D : va_G} {dA : Nat → ClassId} {A : Nat → Prop} {φ : zF} {σ : zS} {H H1 : Heap} {t q : Nat} (hR : zRep w D dA A φ σ H) (ht : t < 200)
    (hP : va_P D vwCl (zL w dA φ σ ++ [(q, zE w dA (zFn φ σ t q) (sN σ t) t (σ.1 t))]) H1) (hD : va_D A (zL w dA φ σ ++ [(q, zE w dA (zFn φ σ t q) (sN σ t) t (σ.1 t))])) : zRep w D dA A (zFn φ σ t q) (sN σ t) H1 := by
  have hlast : (zL w dA φ σ ++ [(q, zE w dA (zFn φ σ t q) (sN σ t) t (σ.1 t))])[(zL w dA φ σ).length]? = some (q, zE w dA (zFn φ σ t q) (sN σ t) t (σ.1 t)) := by simp
  have hold : ∀ t' i', t' < 200 → i' < σ.1 t' → ∃ q0 : Nat, q0 < (zL w dA φ σ).length ∧ (zL w dA φ σ ++ [(q, zE w dA (zFn φ σ t q) (sN σ t) t (σ.1 t))])[q0]? = some (φ t' i', zE w dA φ σ t' i') := by
    intro t' i' ht' hi'
    obtain ⟨q0, hq0⟩ := hR.at ht' hi'
    have hl := (List.getElem?_eq_some_iff.mp hq0).1
    exact ⟨q0, hl, by rw [List.getElem?_append_left hl]; exact hq0⟩
  have split' : ∀ t' i', i' < (sN σ t).1 t' → (t' = t ∧ i' = σ.1 t) ∨ i' < σ.1 t' := by
    intro t' i' h
    have h : i' < (if t' = t then σ.1 t + 1 else σ.1 t') := h
    by_cases e : t' = t
    · subst e
      rw [if_pos rfl] at h
      omega
    · rw [if_neg e] at h
      exact Or.inr h
  have hφ : ∀ t' i', i' < σ.1 t' → zFn φ σ t q t' i' = φ t' i' := by
    intro t' i' h
    unfold zFn
    rw [if_neg]
    rintro ⟨rfl, rfl⟩
    omega
  have hφn : zFn φ σ t q t (σ.1 t) = q := if_pos ⟨rfl, rfl⟩
  refine ⟨fun t' i' ht' hi' => ?_, fun t1 i1 t2 i2 ht1 hi1 ht2 hi2 e => ?_, fun t' i' k' => ?_, fun t' i' k' u j ht' hi' hu hj => ?_⟩
  · rcases split' t' i' hi' with ⟨rfl, rfl⟩ | hi2
    · rw [hφn]
      exact ⟨hP _ _ hlast, hD.2 _ _ hlast⟩
    · obtain ⟨q0, -, hq0⟩ := hold t' i' ht' hi2
      rw [hφ t' i' hi2, zE_x hR.2.2 (zExt_new ht) ht' hi2 (fun k => ?_) (fun k => ?_)]
      · exact ⟨hP _ _ hq0, hD.2 _ _ hq0⟩
      · show (if t' = t ∧ i' = σ.1 t then (0 : Int) else σ.2.1 t' i' k) = _
        rw [if_neg]
        rintro ⟨rfl, rfl⟩
        omega
      · show (if t' = t ∧ i' = σ.1 t then none else σ.2.2 t' i' k) = _
        rw [if_neg]
        rintro ⟨rfl, rfl⟩
        omega
  · rcases split' t1 i1 hi1 with ⟨rfl, rfl⟩ | h1 <;> rcases split' t2 i2 hi2 with ⟨rfl, rfl⟩ | h2
    · exact ⟨rfl, rfl⟩
    · rw [hφn, hφ _ _ h2] at e
      obtain ⟨q0, hl, hq0⟩ := hold t2 i2 ht2 h2
      have := hD.1 _ _ _ _ hlast hq0 e
      omega
    · rw [hφn, hφ _ _ h1] at e
      obtain ⟨q0, hl, hq0⟩ := hold t1 i1 ht1 h1
      have := hD.1 _ _ _ _ hq0 hlast e
      omega
    · rw [hφ _ _ h1, hφ _ _ h2] at e
      exact hR.2.1 t1 i1 t2 i2 ht1 h1 ht2 h2 e
  · show zin (if t' = t ∧ i' = σ.1 t then 0 else σ.2.1 t' i' k')
    split
    · exact zin0
    · exact hR.2.2.1 t' i' k'
  · have hj : (if t' = t ∧ i' = σ.1 t then none else σ.2.2 t' i' k') = some j := hj
    rcases split' t' i' hi' with ⟨rfl, rfl⟩ | hi2
    · rw [if_pos ⟨rfl, rfl⟩] at hj
      cases hj
    · rw [if_neg (by rintro ⟨rfl, rfl⟩; omega)] at hj
      obtain ⟨a, b⟩ := hR.2.2.2 t' i' k' u j ht' hi2 hu hj
      exact ⟨a, Nat.lt_of_lt_of_le b ((zExt_new (φ := φ) (q := q) ht).2 u)⟩
theorem zE_new_obj {w : zW} {dA : Nat → ClassId} {φ : zF} {σ : zS} {t q ci N : Nat} (hw : w.1 t = .inl (ci, N)) : zE w dA (zFn φ σ t q) (sN σ t) t (σ.1 t) = .inr (ci, (List.range N).map fun k => match w.2 t k with | none => Value.int 0 | some _ => Value.null) := by
  rw [zE_obj hw]
  congr 2
  apply List.map_congr_left
  intro k _
  unfold zfv
  cases w.2 t k with
  | none =>
    show Value.int (zI (if t = t ∧ σ.1 t = σ.1 t then 0 else σ.2.1 t (σ.1 t) k)) = _
    rw [if_pos ⟨rfl, rfl⟩, zI0]
  | some u =>
    show va_rf ((if t = t ∧ σ.1 t = σ.1 t then none else σ.2.2 t (σ.1 t) k).map _) = _
    rw [if_pos ⟨rfl, rfl⟩]; rfl
theorem zE_new_ints {w : zW} {dA : Nat → ClassId} {φ : zF} {σ : zS} {t q a L : Nat} (hw : w.1 t = .inr (a, L)) (h0 : w.2 t 0 = none) : zE w dA (zFn φ σ t q) (sN σ t) t (σ.1 t) = .inl (dA a, L, .inl fun _ => 0) := by
  rw [zE_ints hw h0]
  have e : (fun j => zI ((sN σ t).2.1 t (σ.1 t) j)) = fun _ => 0 := by
    funext j
    show zI (if t = t ∧ σ.1 t = σ.1 t then 0 else σ.2.1 t (σ.1 t) j) = 0
    rw [if_pos ⟨rfl, rfl⟩, zI0]
  rw [e]
theorem zE_new_refs {w : zW} {dA : Nat → ClassId} {φ : zF} {σ : zS} {t q a L u : Nat} (hw : w.1 t = .inr (a, L)) (h0 : w.2 t 0 = some u) : zE w dA (zFn φ σ t q) (sN σ t) t (σ.1 t) = .inl (dA a, L, .inr (.inr (.inr (.inr fun _ => none)))) := by
  rw [zE_refs hw h0]
  have e : (fun j => ((sN σ t).2.2 t (σ.1 t) j).map (zFn φ σ t q u)) = fun _ => none := by
    funext j
    show ((if t = t ∧ σ.1 t = σ.1 t then none else σ.2.2 t (σ.1 t) j).map _) = none
    rw [if_pos ⟨rfl, rfl⟩]; rfl
  rw [e]
section JN
variable {α β : Type} {w : zW} {nL : Nat} {K : zKx} {Qf : α → zS → State → Prop} {cl sl pc : Nat} {L L' : List (Nat × zV)} {S S0 : List zV} {σ : zS} {o : Option (α × zS)}
variable {own : String} {cc : ByteArray} {nm : String} {ret : Option FieldType} {fr lo mc ms : Nat}
theorem J_new (C : zC w nL K own cc nm ret fr lo mc ms) {t ci N ix : Nat} {Cn : String} {T : u_T} {ty : Nat → FieldType} (X : zCls w t ci N Cn T ty) (hd : decode cc pc = .ok (.new ix, 3)) (hq1 : Cond.classLink own ix Cn ∈ zT) (hq2 : Cond.instantiable Cn N ∈ zT) (hq3 : Cond.initialized Cn ∈ zT) (hc : cl + 1 ≤ mc) (hs : sl + N ≤ ms)
    (hdf : ∀ j, j < N → defaultValue (ty j) = match w.2 t j with | none => Value.int 0 | some _ => Value.null) {kk : zS → Option (α × zS)}
    (k1 : ∀ σ1, zJ w nL K Qf (cl + 1) (sl + N) (pc + 3) L (.inr (t, some (gN σ t)) :: S) σ1 (kk σ1)) : zJ w nL K Qf cl sl pc L S σ (up_ (sN σ t) kk) := by
  have k1 := k1 (sN σ t)
  obtain ⟨p, l, e, R, s, m, args, below, meth, c, D, dA, A, φ0, σ0⟩ := K
  obtain ⟨hx, hb, hml, hown, hts, hK, hnst, hA, hst, hlk, hrt, hnme, hRm⟩ := C
  obtain ⟨ht, hw, hcl, hin, hty, hnm⟩ := X
  intro r σ' ho φ H locs ls hR hE hS hl hL hV
  refine va_new (D := D) (ci := ci) (fs := (List.range N).map fun k => match w.2 t k with | none => Value.int 0 | some _ => Value.null) hx hb hts hin ty hty hown (hts _ hq1) (hts _ hq2) (hts _ hq3) hK hR.P hR.dd hS hA hcl (fun j hj => ?_) (by rw [hRm]; exact hc) (by rw [hRm]; exact hs) hd fun q H1 hP1 hD1 hS1 => ?_
  · rw [hdf j hj]
    unfold vp_V
    rw [List.getD_eq_getElem?_getD, zfs_get hj]
    rfl
  · rw [← zE_new_obj (dA := dA) (φ := φ) (σ := σ) (q := q) hw] at hP1 hD1
    have hE1 : zExt φ σ (zFn φ σ t q) (sN σ t) := zExt_new ht
    have hq : zcv (zFn φ σ t q) (.inr (t, some (gN σ t))) = .ref q := by
      show Value.ref (zFn φ σ t q t (σ.1 t)) = _
      unfold zFn; rw [if_pos ⟨rfl, rfl⟩]
    have k2 := k1 r σ' ho (zFn φ σ t q) H1 locs ls (zRep_new hR ht hP1 hD1) (hE.tr hE1) hS1 (zhas_x hl hL hE1) (fun x hx => (hL x hx).n hE1.2) (tl_ok (fun i hi => Or.inl ⟨ht, by cases hi; show σ.1 t < (if t = t then σ.1 t + 1 else σ.1 t); rw [if_pos rfl]; omega⟩) fun x hx => (hV x hx).n hE1.2)
    rw [List.map_cons, hq, zst_x hV hE1] at k2
    exact k2
theorem J_newa (C : zC w nL K own cc nm ret fr lo mc ms) {t a N : Nat} {at9 : ArrayType} {z : Int} (ht : t < 200) (hw : w.1 t = .inr (a, N)) (h0 : w.2 t 0 = none) (hz : z = (N : Int)) (hN : N < 1000) (hd : decode cc pc = .ok (.newarray at9, 2))
    (ha : (a = 0 ∧ at9 = .int) ∨ (a = 1 ∧ at9 = .boolean)) (hq : Cond.arrayClass (newarray.typeOf at9) ∈ zT) (hc : cl + 1 ≤ mc) (hs : sl + N ≤ ms) {kk : zS → Option (α × zS)}
    (k1 : ∀ σ1, zJ w nL K Qf (cl + 1) (sl + N) (pc + 2) L (.inr (t, some (gN σ t)) :: S) σ1 (kk σ1)) : zJ w nL K Qf cl sl pc L (.inl z :: S) σ (up_ (sN σ t) kk) := by
  subst hz
  have k1 := k1 (sN σ t)
  obtain ⟨p, l, e, R, s, m, args, below, meth, c, D, dA, A, φ0, σ0⟩ := K
  obtain ⟨hx, hb, hml, hown, hts, hK, hnst, hA, hst, hlk, hrt, hnme, hRm⟩ := C
  intro r σ' ho φ H locs ls hR hE hS hl hL hV
  obtain ⟨-, hV⟩ := hd_ok hV
  have hzn : zin (N : Int) := by unfold zin; omega
  have hneg : ¬ zI (N : Int) < 0 := by
    rw [← zI0, zI_lt hzn zin0]; omega
  have hNN : (zI (N : Int)).toNatClampNeg = N := by rw [zI_clamp hzn]; omega
  have fin : ∀ (q : Nat) (cA : ClassId) (H1 : Heap), cA = dA a → va_P D vwCl (zL w dA φ σ ++ [(q, .inl (cA, N, .inl fun _ => 0))]) H1 → va_D A (zL w dA φ σ ++ [(q, .inl (cA, N, .inl fun _ => 0))]) → va_S A s.heap H1 locs → W p l e R s m args below meth c H1 locs (cl + 1) (sl + N) (Qf r σ') (F0 m (pc + 2) ls (.ref q :: S.map (zcv φ))) := by
    intro q cA H1 hcA hP1 hD1 hS1
    subst hcA
    rw [← zE_new_ints (dA := dA) (φ := φ) (σ := σ) (q := q) hw h0] at hP1 hD1
    have hE1 : zExt φ σ (zFn φ σ t q) (sN σ t) := zExt_new ht
    have hq : zcv (zFn φ σ t q) (.inr (t, some (gN σ t))) = .ref q := by
      show Value.ref (zFn φ σ t q t (σ.1 t)) = _
      unfold zFn; rw [if_pos ⟨rfl, rfl⟩]
    have k2 := k1 r σ' ho (zFn φ σ t q) H1 locs ls (zRep_new hR ht hP1 hD1) (hE.tr hE1) hS1 (zhas_x hl hL hE1) (fun x hx => (hL x hx).n hE1.2) (tl_ok (fun i hi => Or.inl ⟨ht, by cases hi; show σ.1 t < (if t = t then σ.1 t + 1 else σ.1 t); rw [if_pos rfl]; omega⟩) fun x hx => (hV x hx).n hE1.2)
    rw [List.map_cons, hq, zst_x hV hE1] at k2
    exact k2
  rcases ha with ⟨rfl, rfl⟩ | ⟨rfl, rfl⟩
  · refine va_newa (D := D) (atype := .int) (ty := .int) (a0 := (N, .inl fun _ => 0)) hx hb (hts _ hq) rfl hK hR.P hR.dd hS hA (fun _ => rfl) hneg hNN (by simp only [componentBytes]; omega) (by rw [hRm]; exact hc) (by rw [hRm]; exact hs) hd fun q cA H1 hK1 hP1 hD1 hS1 => ?_
    refine fin q cA H1 ?_ hP1 hD1 hS1
    have e1 : s.vm.findClass _ = some cA := (hK1.2 5 (cA, .int) rfl).2
    have e2 : s.vm.findClass _ = some (dA 0) := (hK.2 0 (dA 0, .int) rfl).2
    exact Option.some.inj (e1.symm.trans e2)
  · refine va_newa (D := D) (atype := .boolean) (ty := .boolean) (a0 := (N, .inl fun _ => 0)) hx hb (hts _ hq) rfl hK hR.P hR.dd hS hA (fun _ => rfl) hneg hNN (by simp only [componentBytes]; omega) (by rw [hRm]; exact hc) (by rw [hRm]; exact hs) hd fun q cA H1 hK1 hP1 hD1 hS1 => ?_
    refine fin q cA H1 ?_ hP1 hD1 hS1
    have e1 : s.vm.findClass _ = some cA := (hK1.2 5 (cA, .boolean) rfl).2
    have e2 : s.vm.findClass _ = some (dA 1) := (hK.2 1 (dA 1, .boolean) rfl).2
    exact Option.some.inj (e1.symm.trans e2)
theorem J_newq (C : zC w nL K own cc nm ret fr lo mc ms) {t a N u ix : Nat} {Cn : String} {z : Int} (ht : t < 200) (hw : w.1 t = .inr (a, N)) (h0 : w.2 t 0 = some u) (hz : z = (N : Int)) (hN : N < 1000) (hd : decode cc pc = .ok (.anewarray ix, 3))
    (hzt : ∀ dA : Nat → ClassId, (zTys dA)[a]? = some (dA a, .object Cn)) (hq : Cond.classLink own ix Cn ∈ zT) (hq2 : Cond.arrayOver (.object Cn) ∈ zNW) (hc : cl + 1 ≤ mc) (hs : sl + N ≤ ms) {kk : zS → Option (α × zS)}
    (k1 : ∀ σ1, zJ w nL K Qf (cl + 1) (sl + N) (pc + 3) L (.inr (t, some (gN σ t)) :: S) σ1 (kk σ1)) : zJ w nL K Qf cl sl pc L (.inl z :: S) σ (up_ (sN σ t) kk) := by
  subst hz
  have k1 := k1 (sN σ t)
  obtain ⟨p, l, e, R, s, m, args, below, meth, c, D, dA, A, φ0, σ0⟩ := K
  obtain ⟨hx, hb, hml, hown, hts, hK, hnst, hA, hst, hlk, hrt, hnme, hRm⟩ := C
  intro r σ' ho φ H locs ls hR hE hS hl hL hV
  obtain ⟨-, hV⟩ := hd_ok hV
  have hzn : zin (N : Int) := by unfold zin; omega
  have hneg : ¬ zI (N : Int) < 0 := by
    rw [← zI0, zI_lt hzn zin0]; omega
  have hNN : (zI (N : Int)).toNatClampNeg = N := by rw [zI_clamp hzn]; omega
  refine va_newq (D := D) hx hb hown (hts _ hq) (hnst _ hq2) hK hR.P hR.dd hS hA hneg hNN (by omega) (by rw [hRm]; exact hc) (by rw [hRm]; exact hs) hd fun q cA H1 hK1 hP1 hD1 hS1 => ?_
  have hcA : cA = dA a := by
    obtain ⟨-, kA, comp, -, -, -, e1⟩ := hK1.2 5 (cA, .object Cn) rfl
    obtain ⟨-, kB, comp2, -, -, -, e2⟩ := hK.2 a (dA a, .object Cn) (hzt dA)
    exact Option.some.inj (e1.symm.trans e2)
  subst hcA
  rw [← zE_new_refs (dA := dA) (φ := φ) (σ := σ) (q := q) hw h0] at hP1 hD1
  have hE1 : zExt φ σ (zFn φ σ t q) (sN σ t) := zExt_new ht
  have hq : zcv (zFn φ σ t q) (.inr (t, some (gN σ t))) = .ref q := by
    show Value.ref (zFn φ σ t q t (σ.1 t)) = _
    unfold zFn; rw [if_pos ⟨rfl, rfl⟩]
  have k2 := k1 r σ' ho (zFn φ σ t q) H1 locs ls (zRep_new hR ht hP1 hD1) (hE.tr hE1) hS1 (zhas_x hl hL hE1) (fun x hx => (hL x hx).n hE1.2) (tl_ok (fun i hi => Or.inl ⟨ht, by cases hi; show σ.1 t < (if t = t then σ.1 t + 1 else σ.1 t); rw [if_pos rfl]; omega⟩) fun x hx => (hV x hx).n hE1.2)
  rw [List.map_cons, hq, zst_x hV hE1] at k2
  exact k2
theorem J_objInit (C : zC w nL K own cc nm ret fr lo mc ms) {t i ix : Nat} (hd : decode cc pc = .ok (.invokespecial ix, 3)) (hq : Cond.methodLink own ix Lib.objectInit ∈ zT) (hq2 : Cond.instanceMethod Lib.objectInit ∈ zT) (hq3 : Cond.code Lib.objectInit ⟨#[0xb1]⟩ 1 none ∈ zT) (hf : 1 ≤ fr) (hlo : S.length + 12 ≤ lo)
    (kk : zJ w nL K Qf cl sl (pc + 3) L S σ o) : zJ w nL K Qf cl sl pc L (.inr (t, some i) :: S) σ o := by
  obtain ⟨p, l, e, R, s, m, args, below, meth, c, D, dA, A, φ0, σ0⟩ := K
  obtain ⟨hx, hb, hml, hown, hts, hK, hnst, hA, hst, hlk, hrt, hnme, hRm⟩ := C
  intro r σ' ho φ H locs ls hR hE hS hl hL hV
  have k1 := kk r σ' ho φ H locs ls hR hE hS hl hL (hd_ok hV).2
  refine W.objInit hx hb hown (hts _ hq) (hts _ hq2) (hts _ hq3) rfl (by rw [hml]; exact hl.1) rfl hd (by rw [hRm]; exact hf) ?_ k1
  rw [zcat_sum, hRm]
  show 2 * 0 + S.length + 12 ≤ lo
  omega
/-! ===== contracts ===== -/
def zA (φ : zF) (σ : zS) (sz : Nat) : Nat → Prop := fun q => (∃ t i, t < 200 ∧ i < σ.1 t ∧ q = φ t i) ∨ sz ≤ q
def zPc (w : zW) (D : va_G) (dA : Nat → ClassId) (φ : zF) (σ : zS) (avs : List zV) (sz : Nat) : Array Value → State → Prop := fun v U => v = (avs.map (zcv φ)).toArray ∧ (∀ a ∈ avs, zok σ a) ∧ U.heap.size = sz ∧ zRep w D dA (zA φ σ sz) φ σ U.heap ∧ zSt (φ 1000 0) (zA φ σ sz) U U.heap ∧ va_K D vwCl (zTys dA) U ∧ zNst U
def zQ (w : zW) (D : va_G) (dA : Nat → ClassId) (A : Nat → Prop) (φ0 : zF) (σ0 : zS) (enc : α → List zV) (r : α) (σ' : zS) : Array Value → State → Outcome → State → Prop := fun _ st oc t => ∃ φ', oc = .returned (((enc r).map (zcv φ')).head?) ∧ (∀ v ∈ enc r, zok σ' v) ∧ zRep w D dA A φ' σ' t.heap ∧ zExt φ0 σ0 φ' σ' ∧ va_F A st t
def zQm (w : zW) (enc : α → List zV) (mc ms : Nat) (K : zKx) : α → zS → State → Prop := match K with
  | (_, _, _, _, s, _, args, below, _, _, D, dA, A, φ0, σ0) => fun r σ' => MQ below (zQ w D dA A φ0 σ0 enc r σ') args s mc ms A
def zCt (w : zW) (y : MethodName) (bytes : ByteArray) (maxL : Nat) (ret : Option FieldType) (fr lo mc ms : Nat) (enc : α → List zV) (avs : List zV) (σ : zS) (o : Option (α × zS)) : Prop :=
  ∀ (r : α) (σ' : zS), o = some (r, σ') → ∀ (l : Launch) (D : va_G) (dA : Nat → ClassId) (φ : zF) (sz : Nat), Met l y (.code y bytes maxL ret :: zT) { frames := fr, cells := mc, slots := ms, locals := lo } (zPc w D dA φ σ avs sz) (zQ w D dA (zA φ σ sz) φ σ enc r σ') mc ms (zA φ σ sz)
def zargs : Nat → List zV → List (Nat × zV)
  | _, [] => []
  | k, v :: r => (k, v) :: zargs (k + 1) r
theorem zargs_eq (φ : zF) : ∀ (avs : List zV) (k : Nat), lv_args k (avs.map (zcv φ)) = (zargs k avs).map fun q => (q.1, zcv φ q.2)
  | [], _ => rfl
  | v :: r, k => by
    show (k, zcv φ v) :: lv_args (if (zcv φ v).category = 2 then k + 2 else k + 1) (r.map (zcv φ)) = (k, zcv φ v) :: _
    rw [zcv_cat, if_neg (by decide), zargs_eq φ r (k + 1)]
theorem zargs_mem : ∀ (avs : List zV) (k : Nat) (q : Nat × zV), q ∈ zargs k avs → q.2 ∈ avs
  | [], _, _, h => by cases h
  | v :: r, k, q, h => by
    rcases List.mem_cons.mp h with rfl | h
    · exact List.mem_cons_self
    · exact List.mem_cons_of_mem _ (zargs_mem r (k + 1) q h)
theorem zsl_len (φ : zF) (avs : List zV) : (lg_sl (avs.map (zcv φ))).length = avs.length := by
  induction avs with
  | nil => rfl
  | cons v r ih =>
    unfold lg_sl at ih ⊢
    rw [List.map_cons, List.flatMap_cons, List.length_append, ih, zcv_cat, if_neg (by decide)]
    simp only [List.length_cons, List.length_nil]; omega
theorem zCt_of {y : MethodName} {bytes : ByteArray} {maxL : Nat} {enc : α → List zV} {avs : List zV} (hy : plainName y.cls = true) (hlen : avs.length ≤ maxL)
    (h : ∀ K : zKx, zC w maxL K y.cls bytes y.name ret fr lo mc ms → zJ w maxL K (zQm w enc mc ms K) 0 0 0 (zargs 0 avs) [] σ o) : zCt w y bytes maxL ret fr lo mc ms enc avs σ o := by
  intro r σ' ho l D dA φ sz
  refine Met.ofW (cc := bytes) (maxL := maxL) (ret := ret) hy rfl ?_
  intro p e s m args below meth c s₁ B hml hv
  obtain ⟨rfl, hok, hsz, hR, hSt, hK, hN⟩ := hv
  have hx := B.exec
  have hb := B.bytes
  have hr := B.returns
  have hts := atoms_spec (ws := .code y bytes maxL ret :: zT) B.pre
  have hown : s.vm.findClass y.cls = some m.cls := findClass_of_methodNamed B.named
  have hlocks := B.notSynchronized
  have hin : meth.name = y.name := (name_of_methodNamed B.named B.method).1
  subst hsz
  have hl := lv_entry (avs.map (zcv φ)) (n := maxL) (by rw [zsl_len]; exact hlen)
  rw [lg_entry_eq]
  generalize (lg_sl (avs.map (zcv φ)) ++ List.replicate (maxL - (lg_sl (avs.map (zcv φ))).length) Slot.unset).toArray = ls at hl ⊢
  rw [zargs_eq] at hl
  exact h (p, l, e, { frames := fr, cells := mc, slots := ms, locals := lo }, s, m, (avs.map (zcv φ)).toArray, below, meth, c, D, dA, zA φ σ s.heap.size, φ, σ) ⟨hx, hb, hml, hown, fun v hv => hts v (List.mem_cons_of_mem _ hv), hK, hN, fun q hq => Or.inr hq, hSt, hlocks, hr, hin, rfl⟩ r σ' ho φ s.heap [] ls hR zExt.rf va_S.rf hl (fun q hq => hok _ (zargs_mem _ _ _ hq)) (fun v hv => by cases hv)
/-! ends -/
def eI (z : Int) : List zV := [.inl z]
def eR (t : Nat) (r : Option Nat) : List zV := [.inr (t, r)]
def eV (_ : Unit) : List zV := []
theorem J_iret (C : zC w nL K own cc nm (some .int) fr lo mc ms) {z : Int} (hd : decode cc pc = .ok (.ireturn, 1)) (h1 : cl ≤ mc) (h2 : sl ≤ ms) : zJ w nL K (zQm w eI mc ms K) cl sl pc L [.inl z] σ (some (z, σ)) := by
  obtain ⟨p, l, e, R, s, m, args, below, meth, c, D, dA, A, φ0, σ0⟩ := K
  obtain ⟨hx, hb, hml, hown, hts, hK, hnst, hA, hst, hlk, hrt, hnme, hRm⟩ := C
  intro r σ' ho φ H locs ls hR hE hS hl hL hV
  cases ho
  refine W.widen h1 h2 ?_
  exact W.iret (v := zI z) hx hb hrt (fun t ht hW => ⟨φ, rfl, hV, by rw [ht]; exact hR, hE, hS.F ht⟩) hS.2.2 hd hlk
theorem J_zret (C : zC w nL K own cc nm (some .boolean) fr lo mc ms) {z : Int} (h01 : z = 0 ∨ z = 1) (hd : decode cc pc = .ok (.ireturn, 1)) (h1 : cl ≤ mc) (h2 : sl ≤ ms) : zJ w nL K (zQm w eI mc ms K) cl sl pc L [.inl z] σ (some (z, σ)) := by
  obtain ⟨p, l, e, R, s, m, args, below, meth, c, D, dA, A, φ0, σ0⟩ := K
  obtain ⟨hx, hb, hml, hown, hts, hK, hnst, hA, hst, hlk, hrt, hnme, hRm⟩ := C
  intro r σ' ho φ H locs ls hR hE hS hl hL hV
  cases ho
  refine W.widen h1 h2 ?_
  exact W.zret (v := zI z) hx hb hrt (by rcases h01 with rfl | rfl <;> rfl) (fun t ht hW => ⟨φ, rfl, hV, by rw [ht]; exact hR, hE, hS.F ht⟩) hS.2.2 hd hlk
theorem J_aret (C : zC w nL K own cc nm ret fr lo mc ms) {t : Nat} {x : Option Nat} {n : String} (hrt : ret = some (.object n)) (hd : decode cc pc = .ok (.areturn, 1)) (h1 : cl ≤ mc) (h2 : sl ≤ ms) : zJ w nL K (zQm w (eR t) mc ms K) cl sl pc L [.inr (t, x)] σ (some (x, σ)) := by
  subst hrt
  obtain ⟨p, l, e, R, s, m, args, below, meth, c, D, dA, A, φ0, σ0⟩ := K
  obtain ⟨hx, hb, hml, hown, hts, hK, hnst, hA, hst, hlk, hrt, hnme, hRm⟩ := C
  intro r σ' ho φ H locs ls hR hE hS hl hL hV
  cases ho
  refine W.widen h1 h2 ?_
  exact W.aret (v := zcv φ (.inr (t, x))) hx hb hrt (Or.inl ⟨n, rfl⟩) (by cases x with
    | none => exact Or.inl rfl
    | some i => exact Or.inr ⟨_, rfl⟩) (fun t ht hW => ⟨φ, rfl, hV, by rw [ht]; exact hR, hE, hS.F ht⟩) hS.2.2 hd hlk
theorem J_vret (C : zC w nL K own cc nm none fr lo mc ms) (hd : decode cc pc = .ok (.return_, 1)) (h1 : cl ≤ mc) (h2 : sl ≤ ms) : zJ w nL K (zQm w eV mc ms K) cl sl pc L [] σ (some ((), σ)) := by
  obtain ⟨p, l, e, R, s, m, args, below, meth, c, D, dA, A, φ0, σ0⟩ := K
  obtain ⟨hx, hb, hml, hown, hts, hK, hnst, hA, hst, hlk, hrt, hnme, hRm⟩ := C
  intro r σ' ho φ H locs ls hR hE hS hl hL hV
  cases ho
  refine W.widen h1 h2 ?_
  exact W.vret hx hb hrt (fun t ht hW => ⟨φ, rfl, (fun v hv => absurd hv List.not_mem_nil), by rw [ht]; exact hR, hE, hS.F ht⟩) hS.2.2 hd
/-! ===== calls ===== -/
theorem zPc_blind {D : va_G} {dA : Nat → ClassId} {φ : zF} {avs : List zV} {sz : Nat} : FrameBlind (zPc w D dA φ σ avs sz) := by
  intro a U g mk h
  obtain ⟨h1, h2, h3, h4, h5, h6, h7⟩ := h
  exact ⟨h1, h2, h3, h4, zSt.moved (u := U) (U := U.calling g mk a) (Vm.Alike.refl U.vm) h5, va_K.moved (u := U) (U := U.calling g mk a) (Vm.Alike.refl U.vm) h6, zNst.warm (s := U) (U := U.calling g mk a) (State.WarmedH.refl U) h7⟩
theorem zcall_fin {p : Program} {l : Launch} {e : Env} {R : Room} {s : State} {m : MethodId} {args : Array Value} {below : List Frame} {meth : Method} {c : Code} {H : Heap} {locs : List Loc} {Q : State → Prop} {ls : Array Slot} {st0 : List Value}
    {D : va_G} {dA : Nat → ClassId} {A : Nat → Prop} {φ : zF} {enc : β → List zV} {r1 : β} {σ1 : zS} {mc' ms' : Nat} {a : Array Value} {rest : List Value}
    (hr : va_Run p l e R s m args below meth c H locs cl sl mc' ms' (F0 m pc ls st0) rest (zQ w D dA (zA φ σ H.size) φ σ enc r1 σ1 a) (zA φ σ H.size)) (hR : zRep w D dA A φ σ H) (hS : va_S A s.heap H locs) (hA : ∀ q, s.heap.size ≤ q → A q) (henc : (enc r1).length ≤ 1)
    (kk : ∀ (φ' : zF) (H1 : Heap) (locs1 : List Loc), zRep w D dA A φ' σ1 H1 → zExt φ σ φ' σ1 → va_S A s.heap H1 locs1 → (∀ v ∈ enc r1, zok σ1 v) → W p l e R s m args below meth c H1 locs1 (cl + mc') (sl + ms') Q (F0 m (pc + 3) ls ((enc r1).map (zcv φ') ++ rest))) : W p l e R s m args below meth c H locs cl sl Q (F0 m pc ls st0) := by
  have hAA : ∀ q, zA φ σ H.size q → A q := by
    intro q hq
    rcases hq with ⟨t, i, ht, hi, rfl⟩ | hq
    · exact (hR.1 t i ht hi).2
    · exact hA q (Nat.le_trans hS.1 hq)
  intro T hT X
  obtain ⟨v, st₀, t, T', L, h0, X', hL, e1, e2, ⟨φ', hv, hok, hR1, hE1, hz, hk⟩, st⟩ := hr T hT X
  rw [h0] at hz hk
  have hvl : v.toList = (enc r1).map (zcv φ') := by
    have hv2 : v = ((enc r1).map (zcv φ')).head? := by injection hv
    rw [hv2]
    cases he : enc r1 with
    | nil => rfl
    | cons x y => cases y with
      | nil => rfl
      | cons z y => rw [he] at henc; simp only [List.length_cons] at henc; omega
  have hS1 : va_S A s.heap T'.heap (locs ++ L) := by
    refine ⟨Nat.le_trans hS.1 (by rw [e1]; exact hz), fun q h1 h2 => ?_, fun q hq => ?_⟩
    · rw [e1, hk q (Nat.lt_of_lt_of_le h1 hS.1) fun z => h2 (hAA q z)]
      exact hS.2.1 q h1 h2
    · rcases List.mem_append.mp hq with h | h
      · exact hS.2.2 q h
      · exact hAA _ (hL q h)
  obtain ⟨t2, a1, b1⟩ := kk φ' T'.heap (locs ++ L) (by rw [e1]; exact hR1.weaken fun _ _ _ _ h => hAA _ h) hE1 hS1 hok T' rfl X'
  refine ⟨t2, st t2 ?_, b1⟩
  rw [hvl]
  exact a1
theorem zpre_at {p : Program} {s : State} {m : MethodId} {H : Heap} {locs : List Loc} {D : va_G} {dA : Nat → ClassId} {A : Nat → Prop} {φ φ0 : zF} {σ0 : zS} {avs : List zV}
    (hR : zRep w D dA A φ σ H) (hE : zExt φ0 σ0 φ σ) (hS : va_S A s.heap H locs) (hA : ∀ q, s.heap.size ≤ q → A q) (hok : ∀ v ∈ avs, zok σ v) (hK : va_K D vwCl (zTys dA) s) (hnst : zNst s) (hst : zSt (φ0 1000 0) A s s.heap) :
    ∀ U : State, U.heap = H → s.WarmedH U.vm → zPc w D dA φ σ avs H.size (avs.map (zcv φ)).toArray U := by
  intro U hU hW
  have hAA : ∀ q, zA φ σ H.size q → A q := by
    intro q hq
    rcases hq with ⟨t, i, ht, hi, rfl⟩ | hq
    · exact (hR.1 t i ht hi).2
    · exact hA q (Nat.le_trans hS.1 hq)
  refine ⟨rfl, hok, by rw [hU], ?_, ?_, va_K.moved hW.alike hK, zNst.warm hW hnst⟩
  · rw [hU]
    exact hR.weaken fun t i ht hi _ => Or.inl ⟨t, i, ht, hi, rfl⟩
  · rw [hU]
    have e0 : φ 1000 0 = φ0 1000 0 := hE.1 1000 0 (Or.inr (Nat.le_refl _))
    rw [e0]
    exact zSt.narrow (zSt.moved hW.alike (hst.kept fun q h1 h2 => hS.2.1 q h1 h2)) hAA
theorem zgood_ws {y : MethodName} {bytes : ByteArray} {maxL : Nat} {r : Option FieldType} (h : Cond.code y bytes maxL r ∈ zT) : GoodIn zT (.code y bytes maxL r :: zT) := by
  intro v hv
  have h1 : v ∈ zT := by
    rcases List.mem_cons.mp hv with rfl | hv
    · exact h
    · exact hv
  exact ⟨h1, good_of_word (zT_of h1).2⟩
/-- what the tables say of a call of a method of an object's own class -/
def zYV (own : String) (ix : Nat) (y : MethodName) (bytes : ByteArray) (maxL : Nat) (r : Option FieldType) (n : Nat) : Prop := Cond.methodLink own ix y ∈ zT ∧ Cond.instanceMethod y ∈ zT ∧ Cond.selects y.cls y y ∈ zT ∧ Cond.initialized y.cls ∈ zT ∧ Cond.code y bytes maxL r ∈ zT ∧ (y.cls ≠ "java/lang/invoke/MethodHandle" ∧ y.cls ≠ "java/lang/invoke/VarHandle" ∧ (parseMethodDescriptor y.desc).map (fun d => d.parameters.length) = some n)
def zYS (own : String) (ix : Nat) (y : MethodName) (bytes : ByteArray) (maxL : Nat) (r : Option FieldType) (n : Nat) : Prop := Cond.methodLink own ix y ∈ zT ∧ Cond.static y ∈ zT ∧ Cond.initialized y.cls ∈ zT ∧ Cond.code y bytes maxL r ∈ zT ∧ (y.cls ≠ "java/lang/invoke/MethodHandle" ∧ y.cls ≠ "java/lang/invoke/VarHandle" ∧ (parseMethodDescriptor y.desc).map (fun d => d.parameters.length) = some n)
def zYI (own : String) (ix : Nat) (y : MethodName) (bytes : ByteArray) (maxL : Nat) (n : Nat) : Prop := Cond.methodLink own ix y ∈ zT ∧ y.name = "<init>" ∧ Cond.instanceMethod y ∈ zT ∧ Cond.initialized y.cls ∈ zT ∧ Cond.code y bytes maxL none ∈ zT ∧ (y.cls ≠ "java/lang/invoke/MethodHandle" ∧ y.cls ≠ "java/lang/invoke/VarHandle" ∧ (parseMethodDescriptor y.desc).map (fun d => d.parameters.length) = some n)
def zYN (own : String) (ix : Nat) (y : MethodName) (bytes : ByteArray) (maxL : Nat) (n : Nat) : Prop := (∃ host, Cond.methodLinkNest own ix y host ∈ zNW) ∧ y.name = "<init>" ∧ Cond.instanceMethod y ∈ zT ∧ Cond.initialized y.cls ∈ zT ∧ Cond.code y bytes maxL none ∈ zT ∧ (y.cls ≠ "java/lang/invoke/MethodHandle" ∧ y.cls ≠ "java/lang/invoke/VarHandle" ∧ (parseMethodDescriptor y.desc).map (fun d => d.parameters.length) = some n)
theorem zrev_ok {σ : zS} {avs S0 S : List zV} (h0 : S0 = avs.reverse ++ S) (h : ∀ v ∈ S0, zok σ v) : (∀ v ∈ avs, zok σ v) ∧ ∀ v ∈ S, zok σ v := by
  subst h0
  exact ⟨fun v hv => h v (List.mem_append_left _ (List.mem_reverse.mpr hv)), fun v hv => h v (List.mem_append_right _ hv)⟩
theorem zap_ok {σ : zS} {A B : List zV} (h1 : ∀ v ∈ A, zok σ v) (h2 : ∀ v ∈ B, zok σ v) : ∀ v ∈ A ++ B, zok σ v := fun v hv => (List.mem_append.mp hv).elim (h1 v) (h2 v)
theorem J_callV (C : zC w nL K own cc nm ret fr lo mc ms) {t ci N ix i : Nat} {Cn : String} {T : u_T} {ty : Nat → FieldType} (X : zCls w t ci N Cn T ty) {y : MethodName} {bytes : ByteArray} {maxL fr' lo' mc' ms' : Nat} {ret' : Option FieldType} {enc : β → List zV} {avs : List zV} {o' : Option (β × zS)}
    (Y : zYV own ix y bytes maxL ret' avs.length) (hyc : y.cls = Cn) (hct : zCt w y bytes maxL ret' fr' lo' mc' ms' enc (.inr (t, some i) :: avs) σ o') (hd : decode cc pc = .ok (.invokevirtual ix, 3)) (hS0 : S0 = avs.reverse ++ .inr (t, some i) :: S) (hsz : S.length ≤ 8) (hrm : (fr' + 1 ≤ fr ∧ 8 + (maxL + 11) + lo' ≤ lo) ∧ cl + mc' ≤ mc ∧ sl + ms' ≤ ms) (henc : ∀ r, (enc r).length ≤ 1)
    {kk : β → zS → Option (α × zS)} (k1 : ∀ r1 σ1, zJ w nL K Qf (cl + mc') (sl + ms') (pc + 3) L (enc r1 ++ S) σ1 (kk r1 σ1)) : zJ w nL K Qf cl sl pc L S0 σ (cl_ o' kk) := by
  obtain ⟨p, l, e, R, s, m, args, below, meth, c, D, dA, A, φ0, σ0⟩ := K
  obtain ⟨hx, hb, hml, hown, hts, hK, hnst, hA, hst, hlk, hrt, hnme, hRm⟩ := C
  obtain ⟨ht, hw, hc, hin, hty, hnm⟩ := X
  obtain ⟨y1, y2, y3, y4, y5, y6⟩ := Y
  intro r σ' ho φ H locs ls hR hE hS hl hL hV
  cases ho' : o' with
  | none => rw [ho'] at ho; cases ho
  | some q =>
    obtain ⟨r1, σ1⟩ := q
    rw [ho'] at ho
    have ho : kk r1 σ1 = some (r, σ') := ho
    have hV2 : S0 = (.inr (t, some i) :: avs).reverse ++ S := by rw [hS0]; simp
    obtain ⟨hok, hVS⟩ := zrev_ok hV2 hV
    obtain ⟨q0, hq0⟩ := hR.at ht (zok_ref ht (hok _ List.mem_cons_self))
    rw [zE_obj hw] at hq0
    subst hyc
    refine zcall_fin (w := w) (σ := σ) (rest := S.map (zcv φ)) (va_runV (C := y.cls) (As := avs.map (zcv φ)) (rest := S.map (zcv φ)) (b := φ t i) ⟨hx, hb, hml, hown, hts⟩ (hct r1 σ1 ho' l D dA φ H.size) (cwV avs.length hts ?_ rfl rfl rfl ⟨rfl, y6⟩ (by rw [hRm]; exact hrm.1)) ⟨zPc_blind, va_recv hK hR.P (ci := ci) hc hq0, fun U hU hW => ?_⟩ rfl (by simp) hl.1 ?_ ?_ hd (by rw [hRm]; exact hrm.2)) hR hS hA (henc r1) ?_
    · intro v hv
      unfold wsV at hv
      rcases List.mem_append.mp hv with hv | hv
      · have h1 : v ∈ zT := by
          simp only [List.mem_cons, List.not_mem_nil, or_false] at hv
          rcases hv with rfl | rfl | rfl | rfl
          · exact y1
          · exact y2
          · exact y3
          · exact y4
        exact ⟨h1, good_of_word (zT_of h1).2⟩
      · exact zgood_ws y5 v hv
    · exact zpre_at (p := p) (m := m) (avs := .inr (t, some i) :: avs) hR hE hS hA hok hK hnst hst U hU hW
    · show S0.map (zcv φ) = (avs.map (zcv φ)).reverse ++ .ref (φ t i) :: S.map (zcv φ)
      rw [hS0, List.map_append, List.map_reverse]
      rfl
    · refine lv_room ?_
      rw [zcat_sum]; exact hsz
    · intro φ' H1 locs1 hR1 hE1 hS1 hoke
      have k2 := k1 r1 σ1 r σ' ho φ' H1 locs1 ls hR1 (hE.tr hE1) hS1 (zhas_x hl hL hE1) (fun x hx => (hL x hx).n hE1.2) (zap_ok hoke fun x hx => (hVS x hx).n hE1.2)
      rw [List.map_append, zst_x hVS hE1] at k2
      exact k2
theorem J_callS (C : zC w nL K own cc nm ret fr lo mc ms) {ix : Nat} {y : MethodName} {bytes : ByteArray} {maxL fr' lo' mc' ms' : Nat} {ret' : Option FieldType} {enc : β → List zV} {avs : List zV} {o' : Option (β × zS)}
    (Y : zYS own ix y bytes maxL ret' avs.length) (hct : zCt w y bytes maxL ret' fr' lo' mc' ms' enc avs σ o') (hd : decode cc pc = .ok (.invokestatic ix, 3)) (hS0 : S0 = avs.reverse ++ S) (hsz : S.length ≤ 8) (hrm : (fr' + 1 ≤ fr ∧ 8 + (maxL + 11) + lo' ≤ lo) ∧ cl + mc' ≤ mc ∧ sl + ms' ≤ ms) (henc : ∀ r, (enc r).length ≤ 1)
    {kk : β → zS → Option (α × zS)} (k1 : ∀ r1 σ1, zJ w nL K Qf (cl + mc') (sl + ms') (pc + 3) L (enc r1 ++ S) σ1 (kk r1 σ1)) : zJ w nL K Qf cl sl pc L S0 σ (cl_ o' kk) := by
  obtain ⟨p, l, e, R, s, m, args, below, meth, c, D, dA, A, φ0, σ0⟩ := K
  obtain ⟨hx, hb, hml, hown, hts, hK, hnst, hA, hst, hlk, hrt, hnme, hRm⟩ := C
  obtain ⟨y1, y2, y4, y5, y6⟩ := Y
  intro r σ' ho φ H locs ls hR hE hS hl hL hV
  cases ho' : o' with
  | none => rw [ho'] at ho; cases ho
  | some q =>
    obtain ⟨r1, σ1⟩ := q
    rw [ho'] at ho
    have ho : kk r1 σ1 = some (r, σ') := ho
    obtain ⟨hok, hVS⟩ := zrev_ok hS0 hV
    refine zcall_fin (w := w) (σ := σ) (rest := S.map (zcv φ)) (va_runS (As := avs.map (zcv φ)) (rest := S.map (zcv φ)) ⟨hx, hb, hml, hown, hts⟩ (hct r1 σ1 ho' l D dA φ H.size) (va_cwS avs.length hts ?_ rfl rfl rfl y6 (by rw [hRm]; exact hrm.1)) ⟨zPc_blind, fun U hU hW => ?_⟩ rfl (by simp) hl.1 ?_ ?_ hd (by rw [hRm]; exact hrm.2)) hR hS hA (henc r1) ?_
    · intro v hv
      unfold va_wsS at hv
      rcases List.mem_append.mp hv with hv | hv
      · have h1 : v ∈ zT := by
          simp only [List.mem_cons, List.not_mem_nil, or_false] at hv
          rcases hv with rfl | rfl | rfl
          · exact y1
          · exact y2
          · exact y4
        exact ⟨h1, good_of_word (zT_of h1).2⟩
      · exact zgood_ws y5 v hv
    · exact zpre_at (p := p) (m := m) (avs := avs) hR hE hS hA hok hK hnst hst U hU hW
    · show S0.map (zcv φ) = (avs.map (zcv φ)).reverse ++ S.map (zcv φ)
      rw [hS0, List.map_append, List.map_reverse]
    · refine lv_room ?_
      rw [zcat_sum]; exact hsz
    · intro φ' H1 locs1 hR1 hE1 hS1 hoke
      have k2 := k1 r1 σ1 r σ' ho φ' H1 locs1 ls hR1 (hE.tr hE1) hS1 (zhas_x hl hL hE1) (fun x hx => (hL x hx).n hE1.2) (zap_ok hoke fun x hx => (hVS x hx).n hE1.2)
      rw [List.map_append, zst_x hVS hE1] at k2
      exact k2
theorem J_callI (C : zC w nL K own cc nm ret fr lo mc ms) {t ix i : Nat} {y : MethodName} {bytes : ByteArray} {maxL fr' lo' mc' ms' : Nat} {enc : β → List zV} {avs : List zV} {o' : Option (β × zS)}
    (Y : zYI own ix y bytes maxL avs.length) (hct : zCt w y bytes maxL none fr' lo' mc' ms' enc (.inr (t, some i) :: avs) σ o') (hd : decode cc pc = .ok (.invokespecial ix, 3)) (hS0 : S0 = avs.reverse ++ .inr (t, some i) :: S) (hsz : S.length ≤ 8) (hrm : (fr' + 1 ≤ fr ∧ 8 + (maxL + 11) + lo' ≤ lo) ∧ cl + mc' ≤ mc ∧ sl + ms' ≤ ms) (henc : ∀ r, (enc r).length ≤ 1)
    {kk : β → zS → Option (α × zS)} (k1 : ∀ r1 σ1, zJ w nL K Qf (cl + mc') (sl + ms') (pc + 3) L (enc r1 ++ S) σ1 (kk r1 σ1)) : zJ w nL K Qf cl sl pc L S0 σ (cl_ o' kk) := by
  obtain ⟨p, l, e, R, s, m, args, below, meth, c, D, dA, A, φ0, σ0⟩ := K
  obtain ⟨hx, hb, hml, hown, hts, hK, hnst, hA, hst, hlk, hrt, hnme, hRm⟩ := C
  obtain ⟨y1, yn, y2, y4, y5, y6⟩ := Y
  intro r σ' ho φ H locs ls hR hE hS hl hL hV
  cases ho' : o' with
  | none => rw [ho'] at ho; cases ho
  | some q =>
    obtain ⟨r1, σ1⟩ := q
    rw [ho'] at ho
    have ho : kk r1 σ1 = some (r, σ') := ho
    have hV2 : S0 = (.inr (t, some i) :: avs).reverse ++ S := by rw [hS0]; simp
    obtain ⟨hok, hVS⟩ := zrev_ok hV2 hV
    refine zcall_fin (w := w) (σ := σ) (rest := S.map (zcv φ)) (va_runI (As := avs.map (zcv φ)) (rest := S.map (zcv φ)) (b := φ t i) ⟨hx, hb, hml, hown, hts⟩ (hct r1 σ1 ho' l D dA φ H.size) ⟨callB_of avs.length hts (zgood_ws y5) rfl rfl rfl (hts _ y4) (hts _ y1) y6 (by rw [hRm]; exact hrm.1), yn, hts _ y2⟩ ⟨zPc_blind, fun U hU hW => ?_⟩ rfl (by simp) hl.1 ?_ ?_ hd (by rw [hRm]; exact hrm.2)) hR hS hA (henc r1) ?_
    · exact zpre_at (p := p) (m := m) (avs := .inr (t, some i) :: avs) hR hE hS hA hok hK hnst hst U hU hW
    · show S0.map (zcv φ) = (avs.map (zcv φ)).reverse ++ .ref (φ t i) :: S.map (zcv φ)
      rw [hS0, List.map_append, List.map_reverse]
      rfl
    · refine lv_room ?_
      rw [zcat_sum]; exact hsz
    · intro φ' H1 locs1 hR1 hE1 hS1 hoke
      have k2 := k1 r1 σ1 r σ' ho φ' H1 locs1 ls hR1 (hE.tr hE1) hS1 (zhas_x hl hL hE1) (fun x hx => (hL x hx).n hE1.2) (zap_ok hoke fun x hx => (hVS x hx).n hE1.2)
      rw [List.map_append, zst_x hVS hE1] at k2
      exact k2
theorem J_callN (C : zC w nL K own cc nm ret fr lo mc ms) {t ix i : Nat} {y : MethodName} {bytes : ByteArray} {maxL fr' lo' mc' ms' : Nat} {enc : β → List zV} {avs : List zV} {o' : Option (β × zS)}
    (Y : zYN own ix y bytes maxL avs.length) (hct : zCt w y bytes maxL none fr' lo' mc' ms' enc (.inr (t, some i) :: avs) σ o') (hd : decode cc pc = .ok (.invokespecial ix, 3)) (hS0 : S0 = avs.reverse ++ .inr (t, some i) :: S) (hsz : S.length ≤ 8) (hrm : (fr' + 1 ≤ fr ∧ 8 + (maxL + 11) + lo' ≤ lo) ∧ cl + mc' ≤ mc ∧ sl + ms' ≤ ms) (henc : ∀ r, (enc r).length ≤ 1)
    {kk : β → zS → Option (α × zS)} (k1 : ∀ r1 σ1, zJ w nL K Qf (cl + mc') (sl + ms') (pc + 3) L (enc r1 ++ S) σ1 (kk r1 σ1)) : zJ w nL K Qf cl sl pc L S0 σ (cl_ o' kk) := by
  obtain ⟨p, l, e, R, s, m, args, below, meth, c, D, dA, A, φ0, σ0⟩ := K
  obtain ⟨hx, hb, hml, hown, hts, hK, hnst, hA, hst, hlk, hrt, hnme, hRm⟩ := C
  obtain ⟨⟨host, y1⟩, yn, y2, y4, y5, y6⟩ := Y
  intro r σ' ho φ H locs ls hR hE hS hl hL hV
  cases ho' : o' with
  | none => rw [ho'] at ho; cases ho
  | some q =>
    obtain ⟨r1, σ1⟩ := q
    rw [ho'] at ho
    have ho : kk r1 σ1 = some (r, σ') := ho
    have hV2 : S0 = (.inr (t, some i) :: avs).reverse ++ S := by rw [hS0]; simp
    obtain ⟨hok, hVS⟩ := zrev_ok hV2 hV
    refine zcall_fin (w := w) (σ := σ) (rest := S.map (zcv φ)) (va_runIN (As := avs.map (zcv φ)) (rest := S.map (zcv φ)) (b := φ t i) ⟨hx, hb, hml, hown, hts⟩ (hct r1 σ1 ho' l D dA φ H.size) ⟨va_cnB avs.length hts (zgood_ws y5) rfl rfl rfl (hnst _ y1) (hts _ y4) y6 (by rw [hRm]; exact hrm.1), yn, hts _ y2⟩ ⟨zPc_blind, fun U hU hW => ?_⟩ rfl (by simp) hl.1 ?_ ?_ hd (by rw [hRm]; exact hrm.2)) hR hS hA (henc r1) ?_
    · exact zpre_at (p := p) (m := m) (avs := .inr (t, some i) :: avs) hR hE hS hA hok hK hnst hst U hU hW
    · show S0.map (zcv φ) = (avs.map (zcv φ)).reverse ++ .ref (φ t i) :: S.map (zcv φ)
      rw [hS0, List.map_append, List.map_reverse]
      rfl
    · refine lv_room ?_
      rw [zcat_sum]; exact hsz
    · intro φ' H1 locs1 hR1 hE1 hS1 hoke
      have k2 := k1 r1 σ1 r σ' ho φ' H1 locs1 ls hR1 (hE.tr hE1) hS1 (zhas_x hl hL hE1) (fun x hx => (hL x hx).n hE1.2) (zap_ok hoke fun x hx => (hVS x hx).n hE1.2)
      rw [List.map_append, zst_x hVS hE1] at k2
      exact k2
theorem zE_sCp {dA : Nat → ClassId} {φ : zF} {t i sp u j dp n : Nat} (t' i' : Nat) (h : t' ≠ u ∨ i' ≠ j) : zE w dA φ (sCp σ t i sp u j dp n) t' i' = zE w dA φ σ t' i' := by
  have e : ∀ k', (sCp σ t i sp u j dp n).2.1 t' i' k' = σ.2.1 t' i' k' := by
    intro k'
    show (if t' = u ∧ i' = j ∧ dp ≤ k' ∧ k' < dp + n then _ else σ.2.1 t' i' k') = _
    rw [if_neg]
    rintro ⟨h1, h2, -⟩
    rcases h with h | h
    · exact h h1
    · exact h h2
  unfold zE
  cases w.1 t' with
  | inl q =>
    have e2 : zfv w φ (sCp σ t i sp u j dp n) t' i' = zfv w φ σ t' i' := by
      funext k'
      unfold zfv
      rw [e]
      rfl
    simp only [e2]
  | inr q => cases w.2 t' 0 with
    | none => simp only [e]
    | some u => rfl
theorem J_copy (C : zC w nL K own cc nm ret fr lo mc ms) {t i N u j M ix : Nat} {sp dp n : Int} (ht : t < 200) (hw : w.1 t = .inr (0, N)) (h0 : w.2 t 0 = none) (hu : u < 200) (hwu : w.1 u = .inr (0, M)) (h0u : w.2 u 0 = none) (hd : decode cc pc = .ok (.invokestatic ix, 3))
    (hq1 : Cond.methodLink own ix arraycopyName ∈ zT) (hq2 : Cond.native arraycopyName ∈ zT) (hq3 : Cond.static arraycopyName ∈ zT) (hq4 : Cond.initialized "java/lang/System" ∈ zT) (hin : 0 ≤ sp ∧ 0 ≤ dp ∧ 0 ≤ n ∧ sp + n ≤ N ∧ dp + n ≤ M) (hf : 1 ≤ fr) (hlo : S.length + (nativeFrameWords "java/lang/System" "arraycopy" 5 + 11) ≤ lo) {kk : zS → Option (α × zS)}
    (k1 : ∀ σ1, zJ w nL K Qf cl sl (pc + 3) L S σ1 (kk σ1)) : zJ w nL K Qf cl sl pc L (.inl n :: .inl dp :: .inr (u, some j) :: .inl sp :: .inr (t, some i) :: S) σ (up_ (sCp σ t i sp.toNat u j dp.toNat n.toNat) kk) := by
  have k1 := k1 (sCp σ t i sp.toNat u j dp.toNat n.toNat)
  obtain ⟨p, l, e, R, s, m, args, below, meth, c, D, dA, A, φ0, σ0⟩ := K
  obtain ⟨hx, hb, hml, hown, hts, hK, hnst, hA, hst, hlk, hrt, hnme, hRm⟩ := C
  intro r σ' ho φ H locs ls hR hE hS hl hL hV
  obtain ⟨hn, hV⟩ := hd_ok hV
  obtain ⟨hdp, hV⟩ := hd_ok hV
  obtain ⟨hju, hV⟩ := hd_ok hV
  obtain ⟨hsp, hV⟩ := hd_ok hV
  obtain ⟨hit, hV⟩ := hd_ok hV
  have hn : zin n := hn
  have hdp : zin dp := hdp
  have hsp : zin sp := hsp
  have hj := zok_ref hu hju
  have hi := zok_ref ht hit
  obtain ⟨q0, hq0⟩ := hR.at ht hi
  obtain ⟨q1, hqu⟩ := hR.at hu hj
  have hq0' := hq0
  have hqu' := hqu
  rw [zE_ints hw h0] at hq0'
  rw [zE_ints hwu h0u] at hqu'
  have neg : ∀ z : Int, zin z → 0 ≤ z → ¬ zI z < 0 := by
    intro z hz h
    rw [← zI0, zI_lt hz zin0]; omega
  refine va_copyi (D := D) (sp := zI sp) (dp := zI dp) (n := zI n) (ty := .int) (rest := S.map (zcv φ)) hx hb (by rw [hml]; exact hl.1.symm) hown (hts _ hq1) (hts _ hq2) (hts _ hq3) (hts _ hq4) hK hR.P hR.dd hS q0 q1 0 0 hq0' hqu' rfl rfl rfl (neg _ hsp hin.1) (neg _ hdp hin.2.1) (neg _ hn hin.2.2.1) (by rw [zI_clamp hsp, zI_clamp hn]; omega) (by rw [zI_clamp hdp, zI_clamp hn]; omega) (fun _ _ => rfl) (by rw [hRm]; exact hf) (by rw [zcat_sum, hRm]; exact hlo) hd fun H1 locs1 hP1 _ hS1 => ?_
  rw [zI_clamp hsp, zI_clamp hdp, zI_clamp hn, show (Sum.inl (dA 0, M, Sum.inl (va_cpy (fun j1 => zI (σ.2.1 t i j1)) (fun j1 => zI (σ.2.1 u j j1)) sp.toNat dp.toNat n.toNat)) : va_E) = zE w dA φ (sCp σ t i sp.toNat u j dp.toNat n.toNat) u j from by
    rw [zE_ints hwu h0u]
    have e1 : va_cpy (fun j1 => zI (σ.2.1 t i j1)) (fun j1 => zI (σ.2.1 u j j1)) sp.toNat dp.toNat n.toNat = fun j1 => zI ((sCp σ t i sp.toNat u j dp.toNat n.toNat).2.1 u j j1) := by
      funext j1
      unfold va_cpy sCp
      simp only [true_and]
      split <;> rfl
    rw [e1]] at hP1
  refine k1 r σ' ho φ H1 locs1 ls (zRep_set hR hu hj hqu hP1 rfl (fun t' i' h => zE_sCp t' i' h) ⟨fun t' i' k' => ?_, hR.2.2.2⟩) (hE.n rfl) hS1 hl (fun q hq => (hL q hq).n fun _ => Nat.le_refl _) (fun q hq => (hV q hq).n fun _ => Nat.le_refl _)
  show zin (if t' = u ∧ i' = j ∧ dp.toNat ≤ k' ∧ k' < dp.toNat + n.toNat then _ else σ.2.1 t' i' k')
  split
  · exact hR.2.2.1 _ _ _
  · exact hR.2.2.1 _ _ _
end JN

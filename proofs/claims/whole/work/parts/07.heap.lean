/-! ===== rows that touch the heap ===== -/
/-- of a tag of objects: its class -/
def zCls (w : zW) (t ci N : Nat) (Cn : String) (T : u_T) (ty : Nat → FieldType) : Prop := t < 200 ∧ w.1 t = .inl (ci, N) ∧ vwCl[ci]? = some (Cn, T, N) ∧ (∀ v ∈ u_ws Cn T N, v ∈ zT) ∧ (∀ k, k < N → parseFieldDescriptor (T k).2.2.1 = some (ty k)) ∧ (∀ a, a < N → ∀ b, b < N → a ≠ b → (T a).2.1 ≠ (T b).2.1)
theorem zE_obj {w : zW} {dA : Nat → ClassId} {φ : zF} {σ : zS} {t ci N : Nat} (h : w.1 t = .inl (ci, N)) (i : Nat) : zE w dA φ σ t i = .inr (ci, (List.range N).map (zfv w φ σ t i)) := by unfold zE; rw [h]
theorem zE_ints {w : zW} {dA : Nat → ClassId} {φ : zF} {σ : zS} {t a L : Nat} (h : w.1 t = .inr (a, L)) (h0 : w.2 t 0 = none) (i : Nat) : zE w dA φ σ t i = .inl (dA a, L, .inl fun j => zI (σ.2.1 t i j)) := by unfold zE; rw [h, h0]
theorem zE_refs {w : zW} {dA : Nat → ClassId} {φ : zF} {σ : zS} {t a L u : Nat} (h : w.1 t = .inr (a, L)) (h0 : w.2 t 0 = some u) (i : Nat) : zE w dA φ σ t i = .inl (dA a, L, .inr (.inr (.inr (.inr fun j => (σ.2.2 t i j).map (φ u))))) := by unfold zE; rw [h, h0]
theorem zok_ref {σ : zS} {t i : Nat} (ht : t < 200) (h : zok σ (.inr (t, some i))) : i < σ.1 t := by
  have := h i rfl
  rcases this with h | h <;> omega
theorem zfs_get {N k : Nat} {f : Nat → Value} (hk : k < N) : ((List.range N).map f)[k]? = some (f k) := by simp [hk]
theorem zfs_set {w : zW} {φ : zF} {σ σ' : zS} {t i N k : Nat} {v : Value} (hv : zfv w φ σ' t i k = v) (ho : ∀ j, j ≠ k → zfv w φ σ' t i j = zfv w φ σ t i j) : ((List.range N).map (zfv w φ σ t i)).set k v = (List.range N).map (zfv w φ σ' t i) := by
  apply List.ext_getElem?
  intro j
  rw [List.getElem?_set]
  by_cases hj : k = j
  · subst hj
    rw [if_pos rfl]
    by_cases hl : k < N
    · rw [if_pos (by simpa using hl), zfs_get hl, hv]
    · rw [if_neg (by simpa using hl)]
      simp [hl]
  · rw [if_neg hj]
    by_cases hl : j < N
    · rw [zfs_get hl, zfs_get hl, ho j (Ne.symm hj)]
    · simp [hl]
theorem zupd_eq {f : Nat → Int} {n : Nat} {z : Int} : upd (fun j => zI (f j)) n (zI z) = fun j => zI (if j = n then z else f j) := by
  funext j
  unfold upd
  split <;> rfl
section JH
variable {α : Type} {w : zW} {nL : Nat} {K : zKx} {Qf : α → zS → State → Prop} {cl sl pc : Nat} {L L' : List (Nat × zV)} {S : List zV} {σ : zS} {o : Option (α × zS)}
variable {own : String} {cc : ByteArray} {nm : String} {ret : Option FieldType} {fr lo mc ms : Nat}
theorem J_getI (C : zC w nL K own cc nm ret fr lo mc ms) {t ci N i ix : Nat} {Cn : String} {T : u_T} {ty : Nat → FieldType} (X : zCls w t ci N Cn T ty) (k : Nat) (hk : k < N) (hr : w.2 t k = none) (hd : decode cc pc = .ok (.getfield ix, 3)) (hq : Cond.fieldLink own ix (T k).1 (T k).2.1 (T k).2.2.1 ∈ zT)
    (kk : zJ w nL K Qf cl sl (pc + 3) L (.inl (gI σ t i k) :: S) σ o) : zJ w nL K Qf cl sl pc L (.inr (t, some i) :: S) σ o := by
  obtain ⟨p, l, e, R, s, m, args, below, meth, c, D, dA, A, φ0, σ0⟩ := K
  obtain ⟨hx, hb, hml, hown, hts, hK, -⟩ := C
  obtain ⟨ht, hw, hc, hin, hty, hnm⟩ := X
  intro r σ' ho φ H locs ls hR hE hS hl hL hV
  obtain ⟨hv, hV⟩ := hd_ok hV
  obtain ⟨q0, hq0⟩ := hR.at ht (zok_ref ht hv)
  rw [zE_obj hw] at hq0
  have k1 := kk r σ' ho φ H locs ls hR hE hS hl hL (tl_ok (hR.2.2.1 t i k) hV)
  exact va_get (D := D) hx hb hts hin hown hK hR.P q0 hq0 hc k hk (hts _ hq) (fun _ h => h) (v := .int (zI (σ.2.1 t i k))) (by rw [zfs_get hk]; unfold zfv; rw [hr]) hd k1
theorem J_getR (C : zC w nL K own cc nm ret fr lo mc ms) {t ci N i ix u : Nat} {Cn : String} {T : u_T} {ty : Nat → FieldType} (X : zCls w t ci N Cn T ty) (k : Nat) (hk : k < N) (hr : w.2 t k = some u) (hd : decode cc pc = .ok (.getfield ix, 3)) (hq : Cond.fieldLink own ix (T k).1 (T k).2.1 (T k).2.2.1 ∈ zT)
    (kk : zJ w nL K Qf cl sl (pc + 3) L (.inr (u, gR σ t i k) :: S) σ o) : zJ w nL K Qf cl sl pc L (.inr (t, some i) :: S) σ o := by
  obtain ⟨p, l, e, R, s, m, args, below, meth, c, D, dA, A, φ0, σ0⟩ := K
  obtain ⟨hx, hb, hml, hown, hts, hK, -⟩ := C
  obtain ⟨ht, hw, hc, hin, hty, hnm⟩ := X
  intro r σ' ho φ H locs ls hR hE hS hl hL hV
  obtain ⟨hv, hV⟩ := hd_ok hV
  have hi := zok_ref ht hv
  obtain ⟨q0, hq0⟩ := hR.at ht hi
  rw [zE_obj hw] at hq0
  have k1 := kk r σ' ho φ H locs ls hR hE hS hl hL (tl_ok (fun j hj => Or.inl (hR.2.2.2 t i k u j ht hi (by unfold zty; rw [hw]; exact hr) hj)) hV)
  exact va_get (D := D) hx hb hts hin hown hK hR.P q0 hq0 hc k hk (hts _ hq) (fun _ h => h) (v := va_rf ((σ.2.2 t i k).map (φ u))) (by rw [zfs_get hk]; unfold zfv; rw [hr]) hd k1
theorem J_put0 (C : zC w nL K own cc nm ret fr lo mc ms) {t ci N i ix : Nat} {Cn : String} {T : u_T} {ty : Nat → FieldType} (X : zCls w t ci N Cn T ty) (k : Nat) (hk : k < N) (hf : (T k).2.2.2 = false ∨ ((T k).2.2.2 = true ∧ nm = "<init>" ∧ (T k).1 = own)) (hd : decode cc pc = .ok (.putfield ix, 3)) (hq : Cond.fieldLink own ix (T k).1 (T k).2.1 (T k).2.2.1 ∈ zT) {v : zV} {σ1 : zS}
    (hn : ∀ φ, narrow (ty k) (zcv φ v) = zcv φ v) (hfit : ∀ φ, fits (ty k) (zcv φ v) = true)
    (h1 : σ1.1 = σ.1) (h2 : ∀ dA φ t' i', (t' ≠ t ∨ i' ≠ i) → zE w dA φ σ1 t' i' = zE w dA φ σ t' i') (h3 : zRv w σ → zok σ v → zRv w σ1) (h4 : ∀ φ, zfv w φ σ1 t i k = zcv φ v) (h5 : ∀ φ j, j ≠ k → zfv w φ σ1 t i j = zfv w φ σ t i j)
    (kk : zJ w nL K Qf cl sl (pc + 3) L S σ1 o) : zJ w nL K Qf cl sl pc L (v :: .inr (t, some i) :: S) σ o := by
  obtain ⟨p, l, e, R, s, m, args, below, meth, c, D, dA, A, φ0, σ0⟩ := K
  obtain ⟨hx, hb, hml, hown, hts, hK, hnst, hA, hst, hlk, hrt, hnme, -⟩ := C
  obtain ⟨ht, hw, hc, hin, hty, hnm⟩ := X
  intro r σ' ho φ H locs ls hR hE hS hl hL hV
  obtain ⟨hv, hV⟩ := hd_ok hV
  obtain ⟨hu, hV⟩ := hd_ok hV
  have hi := zok_ref ht hu
  obtain ⟨q0, hq0⟩ := hR.at ht hi
  have hq1 := hq0
  rw [zE_obj hw] at hq1
  have hn1 : ∀ t, σ.1 t ≤ σ1.1 t := fun t => by rw [h1]; exact Nat.le_refl _
  have fin : ∀ (H1 : Heap) (locs1 : List Loc), va_P D vwCl ((zL w dA φ σ).set q0 (φ t i, .inr (ci, ((List.range N).map (zfv w φ σ t i)).set k (zcv φ v)))) H1 → va_D A ((zL w dA φ σ).set q0 (φ t i, .inr (ci, ((List.range N).map (zfv w φ σ t i)).set k (zcv φ v)))) → va_S A s.heap H1 locs1 → W p l e R s m args below meth c H1 locs1 cl sl (Qf r σ') (F0 m (pc + 3) ls (S.map (zcv φ))) := by
    intro H1 locs1 hP1 _ hS1
    rw [zfs_set (h4 φ) (h5 φ), ← zE_obj (dA := dA) hw] at hP1
    exact kk r σ' ho φ H1 locs1 ls (zRep_set hR ht hi hq0 hP1 h1 (h2 dA φ) (h3 hR.2.2 hv)) (hE.n h1) hS1 hl (fun q hq => (hL q hq).n hn1) (fun q hq => (hV q hq).n hn1)
  rcases hf with hf | ⟨hf, hf2, hf3⟩
  · exact va_put (D := D) hx hb hts hin ty hty hnm hown hK hR.P hR.dd hS q0 hq1 hc k hk (hts _ hq) (fun _ h => h) hf (hty k hk) (hn φ) (hfit φ) (by simpa using hk) hd fin
  · exact va_putF (D := D) hx hb hts hin ty hty hnm hown hK hR.P hR.dd hS q0 hq1 hc k hk (hts _ hq) (fun _ h => h) hf (hnme.trans hf2) hf3 (hty k hk) (hn φ) (hfit φ) (by simpa using hk) hd fin
theorem J_putI (C : zC w nL K own cc nm ret fr lo mc ms) {t ci N i ix : Nat} {Cn : String} {T : u_T} {ty : Nat → FieldType} (X : zCls w t ci N Cn T ty) (k : Nat) (hk : k < N) (hr : w.2 t k = none) (hf : (T k).2.2.2 = false ∨ ((T k).2.2.2 = true ∧ nm = "<init>" ∧ (T k).1 = own)) (hd : decode cc pc = .ok (.putfield ix, 3)) (hq : Cond.fieldLink own ix (T k).1 (T k).2.1 (T k).2.2.1 ∈ zT) {z : Int}
    (hn : (ty k = .int) ∨ (ty k = .boolean ∧ (z = 0 ∨ z = 1))) {kk : zS → Option (α × zS)} (k1 : ∀ σ1, zJ w nL K Qf cl sl (pc + 3) L S σ1 (kk σ1)) : zJ w nL K Qf cl sl pc L (.inl z :: .inr (t, some i) :: S) σ (up_ (sI σ t i k z) kk) := by
  refine J_put0 (σ1 := sI σ t i k z) C X k hk hf hd hq (fun φ => ?_) (fun φ => ?_) rfl (fun _ _ t' i' h => zE_sI t' i' h) (fun h hz => zRv_sI h hz) (fun φ => ?_) (fun φ j hj => ?_) (k1 _)
  · rcases hn with hn | ⟨hn, rfl | rfl⟩ <;> rw [hn] <;> rfl
  · rcases hn with hn | ⟨hn, rfl | rfl⟩ <;> rw [hn] <;> rfl
  · unfold zfv; rw [hr]
    show Value.int (zI (if t = t ∧ i = i ∧ k = k then z else σ.2.1 t i k)) = _
    rw [if_pos ⟨rfl, rfl, rfl⟩]; rfl
  · unfold zfv
    have e : (sI σ t i k z).2.1 t i j = σ.2.1 t i j := by
      show (if t = t ∧ i = i ∧ j = k then z else σ.2.1 t i j) = _
      rw [if_neg fun q => hj q.2.2]
    rw [e]; rfl
theorem J_putR (C : zC w nL K own cc nm ret fr lo mc ms) {t ci N i ix u : Nat} {Cn : String} {T : u_T} {ty : Nat → FieldType} (X : zCls w t ci N Cn T ty) (k : Nat) (hk : k < N) (hr : w.2 t k = some u) (hu : u < 200) (hf : (T k).2.2.2 = false ∨ ((T k).2.2.2 = true ∧ nm = "<init>" ∧ (T k).1 = own)) (hd : decode cc pc = .ok (.putfield ix, 3)) (hq : Cond.fieldLink own ix (T k).1 (T k).2.1 (T k).2.2.1 ∈ zT) {x : Option Nat}
    (hn : (∃ n, ty k = .object n) ∨ ∃ n, ty k = .array n) {kk : zS → Option (α × zS)} (k1 : ∀ σ1, zJ w nL K Qf cl sl (pc + 3) L S σ1 (kk σ1)) : zJ w nL K Qf cl sl pc L (.inr (u, x) :: .inr (t, some i) :: S) σ (up_ (sR σ t i k x) kk) := by
  have hw := X.2.1
  refine J_put0 (σ1 := sR σ t i k x) C X k hk hf hd hq (fun φ => ?_) (fun φ => ?_) rfl (fun _ _ t' i' h => zE_sR t' i' h) (fun h hz => zRv_sR h (by unfold zty; rw [hw]; exact hr) (fun j hj => ⟨hu, by have := hz j hj; rcases this with h | h <;> omega⟩)) (fun φ => ?_) (fun φ j hj => ?_) (k1 _)
  · rcases hn with ⟨n, hn⟩ | ⟨n, hn⟩ <;> rw [hn] <;> cases x <;> rfl
  · rcases hn with ⟨n, hn⟩ | ⟨n, hn⟩ <;> rw [hn] <;> cases x <;> rfl
  · unfold zfv; rw [hr]
    show va_rf ((if t = t ∧ i = i ∧ k = k then x else σ.2.2 t i k).map (φ u)) = _
    rw [if_pos ⟨rfl, rfl, rfl⟩]; rfl
  · unfold zfv
    have e : (sR σ t i k x).2.2 t i j = σ.2.2 t i j := by
      show (if t = t ∧ i = i ∧ j = k then x else σ.2.2 t i j) = _
      rw [if_neg fun q => hj q.2.2]
    rw [e]; rfl
/-! arrays -/
theorem J_iald (C : zC w nL K own cc nm ret fr lo mc ms) {t N i : Nat} {j : Int} (ht : t < 200) (hw : w.1 t = .inr (0, N)) (hr : w.2 t 0 = none) (hj : 0 ≤ j ∧ j < N) (hd : decode cc pc = .ok (.iaload, 1))
    (kk : zJ w nL K Qf cl sl (pc + 1) L (.inl (gI σ t i j.toNat) :: S) σ o) : zJ w nL K Qf cl sl pc L (.inl j :: .inr (t, some i) :: S) σ o := by
  obtain ⟨p, l, e, R, s, m, args, below, meth, c, D, dA, A, φ0, σ0⟩ := K
  obtain ⟨hx, hb, hml, hown, hts, hK, -⟩ := C
  intro r σ' ho φ H locs ls hR hE hS hl hL hV
  obtain ⟨hv, hV⟩ := hd_ok hV
  have hv : zin j := hv
  obtain ⟨hu, hV⟩ := hd_ok hV
  obtain ⟨q0, hq0⟩ := hR.at ht (zok_ref ht hu)
  rw [zE_ints hw hr] at hq0
  have k1 := kk r σ' ho φ H locs ls hR hE hS hl hL (tl_ok (hR.2.2.1 t i j.toNat) hV)
  refine va_iald (D := D) (i := zI j) hx hb hK hR.P q0 0 hq0 rfl (zI_vpin hv hj) hd ?_
  rw [zI_clamp hv]
  exact k1
theorem J_bald (C : zC w nL K own cc nm ret fr lo mc ms) {t N i : Nat} {j : Int} (ht : t < 200) (hw : w.1 t = .inr (1, N)) (hr : w.2 t 0 = none) (hj : 0 ≤ j ∧ j < N) (hd : decode cc pc = .ok (.baload, 1))
    (kk : zJ w nL K Qf cl sl (pc + 1) L (.inl (gI σ t i j.toNat) :: S) σ o) : zJ w nL K Qf cl sl pc L (.inl j :: .inr (t, some i) :: S) σ o := by
  obtain ⟨p, l, e, R, s, m, args, below, meth, c, D, dA, A, φ0, σ0⟩ := K
  obtain ⟨hx, hb, hml, hown, hts, hK, -⟩ := C
  intro r σ' ho φ H locs ls hR hE hS hl hL hV
  obtain ⟨hv, hV⟩ := hd_ok hV
  have hv : zin j := hv
  obtain ⟨hu, hV⟩ := hd_ok hV
  obtain ⟨q0, hq0⟩ := hR.at ht (zok_ref ht hu)
  rw [zE_ints hw hr] at hq0
  have k1 := kk r σ' ho φ H locs ls hR hE hS hl hL (tl_ok (hR.2.2.1 t i j.toNat) hV)
  refine va_zald (D := D) (i := zI j) hx hb hK hR.P q0 1 hq0 rfl (zI_vpin hv hj) hd ?_
  rw [zI_clamp hv]
  exact k1
theorem J_aald (C : zC w nL K own cc nm ret fr lo mc ms) {t N i u a : Nat} {j : Int} {Cn : String} (ht : t < 200) (hw : w.1 t = .inr (a, N)) (hr : w.2 t 0 = some u) (hz : ∀ dA : Nat → ClassId, (zTys dA)[a]? = some (dA a, .object Cn)) (hj : 0 ≤ j ∧ j < N) (hd : decode cc pc = .ok (.aaload, 1))
    (kk : zJ w nL K Qf cl sl (pc + 1) L (.inr (u, gR σ t i j.toNat) :: S) σ o) : zJ w nL K Qf cl sl pc L (.inl j :: .inr (t, some i) :: S) σ o := by
  obtain ⟨p, l, e, R, s, m, args, below, meth, c, D, dA, A, φ0, σ0⟩ := K
  obtain ⟨hx, hb, hml, hown, hts, hK, -⟩ := C
  intro r σ' ho φ H locs ls hR hE hS hl hL hV
  obtain ⟨hv, hV⟩ := hd_ok hV
  have hv : zin j := hv
  obtain ⟨hu, hV⟩ := hd_ok hV
  have hi := zok_ref ht hu
  obtain ⟨q0, hq0⟩ := hR.at ht hi
  rw [zE_refs hw hr] at hq0
  have k1 := kk r σ' ho φ H locs ls hR hE hS hl hL (tl_ok (fun j2 hj2 => Or.inl (hR.2.2.2 t i j.toNat u j2 ht hi (by unfold zty; rw [hw]; exact hr) hj2)) hV)
  refine va_aldq (D := D) (i := zI j) hx hb hK hR.P q0 a hq0 (hz dA) (zI_vpin hv hj) hd ?_
  rw [zI_clamp hv]
  exact k1
theorem J_iast (C : zC w nL K own cc nm ret fr lo mc ms) {t N i : Nat} {j z : Int} (ht : t < 200) (hw : w.1 t = .inr (0, N)) (hr : w.2 t 0 = none) (hj : 0 ≤ j ∧ j < N) (hd : decode cc pc = .ok (.iastore, 1)) {kk : zS → Option (α × zS)}
    (k1 : ∀ σ1, zJ w nL K Qf cl sl (pc + 1) L S σ1 (kk σ1)) : zJ w nL K Qf cl sl pc L (.inl z :: .inl j :: .inr (t, some i) :: S) σ (up_ (sI σ t i j.toNat z) kk) := by
  have k1 := k1 (sI σ t i j.toNat z)
  obtain ⟨p, l, e, R, s, m, args, below, meth, c, D, dA, A, φ0, σ0⟩ := K
  obtain ⟨hx, hb, hml, hown, hts, hK, -⟩ := C
  intro r σ' ho φ H locs ls hR hE hS hl hL hV
  obtain ⟨hz, hV⟩ := hd_ok hV
  obtain ⟨hv, hV⟩ := hd_ok hV
  have hv : zin j := hv
  obtain ⟨hu, hV⟩ := hd_ok hV
  have hi := zok_ref ht hu
  obtain ⟨q0, hq0⟩ := hR.at ht hi
  have hq1 := hq0
  rw [zE_ints hw hr] at hq1
  refine va_iast (D := D) (i := zI j) (x := zI z) hx hb hK hR.P hR.dd hS q0 0 hq1 rfl (zI_vpin hv hj) hd fun H1 locs1 hP1 _ hS1 => ?_
  rw [zI_clamp hv, zupd_eq, show (Sum.inl (dA 0, N, Sum.inl fun j1 => zI (if j1 = j.toNat then z else σ.2.1 t i j1)) : va_E) = zE w dA φ (sI σ t i j.toNat z) t i from by
    rw [zE_ints hw hr]
    show _ = (Sum.inl (dA 0, N, Sum.inl fun j1 => zI (if t = t ∧ i = i ∧ j1 = j.toNat then z else σ.2.1 t i j1)) : va_E)
    simp only [true_and]] at hP1
  exact k1 r σ' ho φ H1 locs1 ls (zRep_set hR ht hi hq0 hP1 rfl (fun t' i' h => zE_sI t' i' h) (zRv_sI hR.2.2 hz)) (hE.n rfl) hS1 hl (fun q hq => (hL q hq).n fun _ => Nat.le_refl _) (fun q hq => (hV q hq).n fun _ => Nat.le_refl _)
theorem J_bast (C : zC w nL K own cc nm ret fr lo mc ms) {t N i : Nat} {j z : Int} (ht : t < 200) (hw : w.1 t = .inr (1, N)) (hr : w.2 t 0 = none) (hj : 0 ≤ j ∧ j < N) (h01 : z = 0 ∨ z = 1) (hd : decode cc pc = .ok (.bastore, 1)) {kk : zS → Option (α × zS)}
    (k1 : ∀ σ1, zJ w nL K Qf cl sl (pc + 1) L S σ1 (kk σ1)) : zJ w nL K Qf cl sl pc L (.inl z :: .inl j :: .inr (t, some i) :: S) σ (up_ (sI σ t i j.toNat z) kk) := by
  have k1 := k1 (sI σ t i j.toNat z)
  obtain ⟨p, l, e, R, s, m, args, below, meth, c, D, dA, A, φ0, σ0⟩ := K
  obtain ⟨hx, hb, hml, hown, hts, hK, -⟩ := C
  intro r σ' ho φ H locs ls hR hE hS hl hL hV
  obtain ⟨hz, hV⟩ := hd_ok hV
  obtain ⟨hv, hV⟩ := hd_ok hV
  have hv : zin j := hv
  obtain ⟨hu, hV⟩ := hd_ok hV
  have hi := zok_ref ht hu
  obtain ⟨q0, hq0⟩ := hR.at ht hi
  have hq1 := hq0
  rw [zE_ints hw hr] at hq1
  have hnar : vp_nar .boolean (zI z) = zI z := by rcases h01 with rfl | rfl <;> rfl
  refine va_zast (D := D) (i := zI j) (x := zI z) hx hb hK hR.P hR.dd hS q0 1 hq1 rfl (zI_vpin hv hj) hd fun H1 locs1 hP1 _ hS1 => ?_
  rw [hnar, zI_clamp hv, zupd_eq, show (Sum.inl (dA 1, N, Sum.inl fun j1 => zI (if j1 = j.toNat then z else σ.2.1 t i j1)) : va_E) = zE w dA φ (sI σ t i j.toNat z) t i from by
    rw [zE_ints hw hr]
    show _ = (Sum.inl (dA 1, N, Sum.inl fun j1 => zI (if t = t ∧ i = i ∧ j1 = j.toNat then z else σ.2.1 t i j1)) : va_E)
    simp only [true_and]] at hP1
  exact k1 r σ' ho φ H1 locs1 ls (zRep_set hR ht hi hq0 hP1 rfl (fun t' i' h => zE_sI t' i' h) (zRv_sI hR.2.2 hz)) (hE.n rfl) hS1 hl (fun q hq => (hL q hq).n fun _ => Nat.le_refl _) (fun q hq => (hV q hq).n fun _ => Nat.le_refl _)
theorem J_aast (C : zC w nL K own cc nm ret fr lo mc ms) {t N i u a ci Nu x : Nat} {j : Int} {Cn : String} {T : u_T} {ty : Nat → FieldType} (X : zCls w u ci Nu Cn T ty) (ht : t < 200) (hw : w.1 t = .inr (a, N)) (hr : w.2 t 0 = some u) (hz : ∀ dA : Nat → ClassId, (zTys dA)[a]? = some (dA a, .object Cn)) (hj : 0 ≤ j ∧ j < N) (hd : decode cc pc = .ok (.aastore, 1)) {kk : zS → Option (α × zS)}
    (k1 : ∀ σ1, zJ w nL K Qf cl sl (pc + 1) L S σ1 (kk σ1)) : zJ w nL K Qf cl sl pc L (.inr (u, some x) :: .inl j :: .inr (t, some i) :: S) σ (up_ (sR σ t i j.toNat (some x)) kk) := by
  have k1 := k1 (sR σ t i j.toNat (some x))
  obtain ⟨p, l, e, R, s, m, args, below, meth, c, D, dA, A, φ0, σ0⟩ := K
  obtain ⟨hx, hb, hml, hown, hts, hK, -⟩ := C
  obtain ⟨htu, hwu, hcu, -⟩ := X
  intro r σ' ho φ H locs ls hR hE hS hl hL hV
  obtain ⟨hzz, hV⟩ := hd_ok hV
  obtain ⟨hv, hV⟩ := hd_ok hV
  have hv : zin j := hv
  obtain ⟨hu, hV⟩ := hd_ok hV
  have hi := zok_ref ht hu
  have hxx := zok_ref htu hzz
  obtain ⟨q0, hq0⟩ := hR.at ht hi
  obtain ⟨qk, hqk⟩ := hR.at htu hxx
  have hq1 := hq0
  rw [zE_refs hw hr] at hq1
  rw [zE_obj hwu] at hqk
  refine va_astq (D := D) (i := zI j) (r := (Cn, T, Nu)) hx hb hK hR.P hR.dd hS q0 a qk ci hq1 (hz dA) hqk hcu (zI_vpin hv hj) hd fun H1 locs1 hP1 _ hS1 => ?_
  rw [zI_clamp hv, show (Sum.inl (dA a, N, Sum.inr (Sum.inr (Sum.inr (Sum.inr (va_up (fun j => (σ.2.2 t i j).map (φ u)) j.toNat (some (φ u x))))))) : va_E) = zE w dA φ (sR σ t i j.toNat (some x)) t i from by
    rw [zE_refs hw hr]
    have e1 : (va_up (fun j => (σ.2.2 t i j).map (φ u)) j.toNat (some (φ u x))) = fun j1 => (if t = t ∧ i = i ∧ j1 = j.toNat then some x else σ.2.2 t i j1).map (φ u) := by
      funext j1
      unfold va_up
      by_cases h : j1 = j.toNat
      · rw [if_pos h, if_pos ⟨rfl, rfl, h⟩]; rfl
      · rw [if_neg h, if_neg fun q => h q.2.2]
    rw [e1]
    rfl] at hP1
  exact k1 r σ' ho φ H1 locs1 ls (zRep_set hR ht hi hq0 hP1 rfl (fun t' i' h => zE_sR t' i' h) (zRv_sR hR.2.2 (u := u) (by unfold zty; rw [hw]; exact hr) (fun j2 hj2 => by cases hj2; exact ⟨htu, hxx⟩))) (hE.n rfl) hS1 hl (fun q hq => (hL q hq).n fun _ => Nat.le_refl _) (fun q hq => (hV q hq).n fun _ => Nat.le_refl _)
/-! the static table -/
theorem J_gets (C : zC w nL K own cc nm ret fr lo mc ms) {ix : Nat} (hd : decode cc pc = .ok (.getstatic ix, 3)) (hq : Cond.fieldLink own ix "FlyingChange" "WORTH" "[I" ∈ zT) (kk : zJ w nL K Qf cl sl (pc + 3) L (.inr (1000, some 0) :: S) σ o) : zJ w nL K Qf cl sl pc L S σ o := by
  obtain ⟨p, l, e, R, s, m, args, below, meth, c, D, dA, A, φ0, σ0⟩ := K
  obtain ⟨hx, hb, hml, hown, hts, hK, hnst, hA, hst, -⟩ := C
  intro r σ' ho φ H locs ls hR hE hS hl hL hV
  have k1 := kk r σ' ho φ H locs ls hR hE hS hl hL (tl_ok (fun _ _ => Or.inr (Nat.le_refl _)) hV)
  refine va_gets hx hb hst.1 hS hown (hts _ hq) (fun _ h => h) hd ?_
  have e0 : φ 1000 0 = φ0 1000 0 := hE.1 1000 0 (Or.inr (Nat.le_refl _))
  rw [← e0]
  exact k1
theorem J_getsN (C : zC w nL K own cc nm ret fr lo mc ms) {ix : Nat} {host : String} (hd : decode cc pc = .ok (.getstatic ix, 3)) (hq : Cond.fieldLinkNest own ix "FlyingChange" "WORTH" "[I" host ∈ zNW) (kk : zJ w nL K Qf cl sl (pc + 3) L (.inr (1000, some 0) :: S) σ o) : zJ w nL K Qf cl sl pc L S σ o := by
  obtain ⟨p, l, e, R, s, m, args, below, meth, c, D, dA, A, φ0, σ0⟩ := K
  obtain ⟨hx, hb, hml, hown, hts, hK, hnst, hA, hst, -⟩ := C
  intro r σ' ho φ H locs ls hR hE hS hl hL hV
  have k1 := kk r σ' ho φ H locs ls hR hE hS hl hL (tl_ok (fun _ _ => Or.inr (Nat.le_refl _)) hV)
  refine va_getsN hx hb hst.1 hS hown (va_Nw.use rfl (hnst _ hq)) (fun _ h => h) hd ?_
  have e0 : φ 1000 0 = φ0 1000 0 := hE.1 1000 0 (Or.inr (Nat.le_refl _))
  rw [← e0]
  exact k1
theorem J_wald (C : zC w nL K own cc nm ret fr lo mc ms) {j : Int} (hj : 0 ≤ j ∧ j < (6 : Nat)) (hd : decode cc pc = .ok (.iaload, 1)) (kk : zJ w nL K Qf cl sl (pc + 1) L (.inl (zWt j.toNat) :: S) σ o) : zJ w nL K Qf cl sl pc L (.inl j :: .inr (1000, some 0) :: S) σ o := by
  obtain ⟨p, l, e, R, s, m, args, below, meth, c, D, dA, A, φ0, σ0⟩ := K
  obtain ⟨hx, hb, hml, hown, hts, hK, hnst, hA, hst, -⟩ := C
  intro r σ' ho φ H locs ls hR hE hS hl hL hV
  obtain ⟨hv, hV⟩ := hd_ok hV
  have hv : zin j := hv
  obtain ⟨hu, hV⟩ := hd_ok hV
  have hz : zin (zWt j.toNat) := by unfold zWt zin; split <;> omega
  have k1 := kk r σ' ho φ H locs ls hR hE hS hl hL (tl_ok hz hV)
  have e0 : φ 1000 0 = φ0 1000 0 := hE.1 1000 0 (Or.inr (Nat.le_refl _))
  have k2 := va_ti (i := zI j) (rest := S.map (zcv φ)) hx hb hst.2 hS (zI_vpin hv hj) (by rw [zI_clamp hv]; rfl) hd k1
  rw [← e0] at k2
  exact k2
end JH

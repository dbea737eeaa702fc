/-! ===== numbers: a JVM int is told by a whole number in its range ===== -/
def wr (z : Int) : Int := (z + 2147483648) % 4294967296 - 2147483648
def zin (z : Int) : Prop := -2147483648 ≤ z ∧ z < 2147483648
def zI (z : Int) : Int32 := Int32.ofInt z
theorem wr_in (z : Int) : zin (wr z) := by unfold wr zin; omega
theorem wr_id {z : Int} (h : zin z) : wr z = z := by unfold zin at h; unfold wr; omega
theorem zI_toInt {z : Int} (h : zin z) : (zI z).toInt = z := by
  unfold zin at h; exact Int32.toInt_ofInt_of_le (by omega) (by omega)
theorem wr_bmod (z : Int) : z.bmod (2 ^ 32) = wr z := by
  unfold wr; rw [Int.bmod_def]; split <;> omega
theorem zI_of {x : Int32} {z : Int} (h : x.toInt = z) : zI z = x := by rw [← h]; exact Int32.ofInt_toInt x
theorem zI_add {a b : Int} (ha : zin a) (hb : zin b) : zI a + zI b = zI (wr (a + b)) := by
  refine (zI_of ?_).symm; rw [Int32.toInt_add, zI_toInt ha, zI_toInt hb, wr_bmod]
theorem zI_sub {a b : Int} (ha : zin a) (hb : zin b) : zI a - zI b = zI (wr (a - b)) := by
  refine (zI_of ?_).symm; rw [Int32.toInt_sub, zI_toInt ha, zI_toInt hb, wr_bmod]
theorem zI_mul {a b : Int} (ha : zin a) (hb : zin b) : zI a * zI b = zI (wr (a * b)) := by
  refine (zI_of ?_).symm; rw [Int32.toInt_mul, zI_toInt ha, zI_toInt hb, wr_bmod]
theorem zI_div {a b : Int} (ha : zin a) (hb : zin b) : zI a / zI b = zI (wr (a.tdiv b)) := by
  refine (zI_of ?_).symm; rw [Int32.toInt_div, zI_toInt ha, zI_toInt hb, wr_bmod]
theorem zin_tmod {a b : Int} (ha : zin a) (hb0 : b ≠ 0) : zin (a.tmod b) := by
  unfold zin at *
  have h := Int.natAbs_tmod a b
  have h1 : (a.tmod b).natAbs ≤ a.natAbs := by rw [h]; exact Nat.mod_le _ _
  rcases Int.le_total 0 a with q | q
  · have := Int.tmod_nonneg b q; omega
  · have q2 : a.tmod b ≤ 0 := by
      have := Int.tmod_nonneg b (a := -a) (by omega)
      rw [Int.neg_tmod] at this; omega
    omega
theorem zI_rem {a b : Int} (ha : zin a) (hb : zin b) (h0 : b ≠ 0) : zI a - zI a / zI b * zI b = zI (a.tmod b) := by
  refine (zI_of ?_).symm; rw [rem_toInt, zI_toInt ha, zI_toInt hb]
theorem zI_inj {a b : Int} (ha : zin a) (hb : zin b) : zI a = zI b ↔ a = b := by
  constructor
  · intro h; rw [← zI_toInt ha, ← zI_toInt hb, h]
  · intro h; rw [h]
theorem zI_lt {a b : Int} (ha : zin a) (hb : zin b) : zI a < zI b ↔ a < b := by rw [Int32.lt_iff_toInt_lt, zI_toInt ha, zI_toInt hb]
theorem zI_le {a b : Int} (ha : zin a) (hb : zin b) : zI a ≤ zI b ↔ a ≤ b := by rw [Int32.le_iff_toInt_le, zI_toInt ha, zI_toInt hb]
theorem zin0 : zin 0 := by unfold zin; omega
theorem zI0 : zI 0 = 0 := by decide
theorem zI_clamp {z : Int} (h : zin z) : (zI z).toNatClampNeg = z.toNat := by
  show (zI z).toInt.toNat = z.toNat
  rw [zI_toInt h]
theorem zI_vpin {z : Int} {n : Nat} (h : zin z) (h1 : 0 ≤ z ∧ z < n) : vp_in (zI z) n := by
  rw [vp_in_iff, zI_toInt h]; exact h1
theorem zI_ofNat {n : Nat} (h : n < 2 ^ 31) : zI (n : Int) = Int32.ofNat n := by
  refine zI_of ?_
  exact nI_toInt h
/-! ===== worlds: objects by (tag, number); φ tells where they lie ===== -/
abbrev zW : Type := (Nat → (Nat × Nat) ⊕ (Nat × Nat)) × (Nat → Nat → Option Nat)
abbrev zS : Type := (Nat → Nat) × (Nat → Nat → Nat → Int) × (Nat → Nat → Nat → Option Nat)
abbrev zF : Type := Nat → Nat → Nat
abbrev zV : Type := Int ⊕ (Nat × Option Nat)
def zcv (φ : zF) : zV → Value
  | .inl z => .int (zI z)
  | .inr (t, r) => va_rf (r.map (φ t))
def zok (σ : zS) : zV → Prop
  | .inl z => zin z
  | .inr (t, r) => ∀ i, r = some i → (t < 200 ∧ i < σ.1 t) ∨ 1000 ≤ t
def zfv (w : zW) (φ : zF) (σ : zS) (t i k : Nat) : Value := match w.2 t k with
  | none => .int (zI (σ.2.1 t i k))
  | some u => va_rf ((σ.2.2 t i k).map (φ u))
def zE (w : zW) (dA : Nat → ClassId) (φ : zF) (σ : zS) (t i : Nat) : va_E := match w.1 t with
  | .inl (ci, N) => .inr (ci, (List.range N).map (zfv w φ σ t i))
  | .inr (a, L) => match w.2 t 0 with
    | none => .inl (dA a, L, .inl fun j => zI (σ.2.1 t i j))
    | some u => .inl (dA a, L, .inr (.inr (.inr (.inr fun j => (σ.2.2 t i j).map (φ u)))))
def zty (w : zW) (t k : Nat) : Option Nat := match w.1 t with
  | .inl _ => w.2 t k
  | .inr _ => w.2 t 0
def zRv (w : zW) (σ : zS) : Prop := (∀ t i k, zin (σ.2.1 t i k)) ∧ ∀ t i k u j, t < 200 → i < σ.1 t → zty w t k = some u → σ.2.2 t i k = some j → u < 200 ∧ j < σ.1 u
def zRep (w : zW) (D : va_G) (dA : Nat → ClassId) (A : Nat → Prop) (φ : zF) (σ : zS) (H : Heap) : Prop :=
  (∀ t i, t < 200 → i < σ.1 t → va_at D vwCl (φ t i, zE w dA φ σ t i) H ∧ A (φ t i)) ∧ (∀ t i t' i', t < 200 → i < σ.1 t → t' < 200 → i' < σ.1 t' → φ t i = φ t' i' → t = t' ∧ i = i') ∧ zRv w σ
def zExt (φ0 : zF) (σ0 : zS) (φ : zF) (σ : zS) : Prop := (∀ t i, ((t < 200 ∧ i < σ0.1 t) ∨ 1000 ≤ t) → φ t i = φ0 t i) ∧ ∀ t, σ0.1 t ≤ σ.1 t
theorem zExt.rf {φ : zF} {σ : zS} : zExt φ σ φ σ := ⟨fun _ _ _ => rfl, fun _ => Nat.le_refl _⟩
theorem zExt.tr {φ0 φ1 φ2 : zF} {σ0 σ1 σ2 : zS} (h : zExt φ0 σ0 φ1 σ1) (g : zExt φ1 σ1 φ2 σ2) : zExt φ0 σ0 φ2 σ2 :=
  ⟨fun t i q => (g.1 t i (q.elim (fun z => Or.inl ⟨z.1, Nat.lt_of_lt_of_le z.2 (h.2 t)⟩) Or.inr)).trans (h.1 t i q), fun t => Nat.le_trans (h.2 t) (g.2 t)⟩
theorem zExt.n {φ0 φ : zF} {σ0 σ σ' : zS} (h : zExt φ0 σ0 φ σ) (e : σ'.1 = σ.1) : zExt φ0 σ0 φ σ' := ⟨h.1, fun t => by rw [e]; exact h.2 t⟩
theorem zok.n {σ σ' : zS} {v : zV} (h : zok σ v) (e : ∀ t, σ.1 t ≤ σ'.1 t) : zok σ' v := by
  cases v with
  | inl z => exact h
  | inr q => exact fun i hi => (h i hi).elim (fun z => Or.inl ⟨z.1, Nat.lt_of_lt_of_le z.2 (e _)⟩) Or.inr
theorem zcv.x {φ φ' : zF} {σ σ' : zS} {v : zV} (h : zok σ v) (e : zExt φ σ φ' σ') : zcv φ' v = zcv φ v := by
  cases v with
  | inl z => rfl
  | inr q =>
    obtain ⟨t, r⟩ := q
    cases r with
    | none => rfl
    | some i =>
      show Value.ref (φ' t i) = Value.ref (φ t i)
      rw [e.1 t i (h i rfl)]
theorem zcv_cat (φ : zF) (v : zV) : (zcv φ v).category = 1 := by
  cases v with
  | inl z => rfl
  | inr q => obtain ⟨t, r⟩ := q; cases r <;> rfl
theorem zcat_sum (φ : zF) (S : List zV) : ((S.map (zcv φ)).map fun v => v.category).sum = S.length := by
  induction S with
  | nil => rfl
  | cons a l ih => simp only [List.map_cons, List.sum_cons, zcv_cat, List.length_cons, ih]; omega
/-- the cells of a world, all in one list -/
def zL (w : zW) (dA : Nat → ClassId) (φ : zF) (σ : zS) : va_W := (List.range 200).flatMap fun t => (List.range (σ.1 t)).map fun i => (φ t i, zE w dA φ σ t i)
theorem zL_mem {w : zW} {dA : Nat → ClassId} {φ : zF} {σ : zS} {x : Nat × va_E} : x ∈ zL w dA φ σ ↔ ∃ t i, t < 200 ∧ i < σ.1 t ∧ x = (φ t i, zE w dA φ σ t i) := by
  unfold zL
  rw [List.mem_flatMap]
  constructor
  · rintro ⟨t, ht, hx⟩
    obtain ⟨i, hi, rfl⟩ := List.mem_map.mp hx
    exact ⟨t, i, List.mem_range.mp ht, List.mem_range.mp hi, rfl⟩
  · rintro ⟨t, i, ht, hi, rfl⟩
    exact ⟨t, List.mem_range.mpr ht, List.mem_map.mpr ⟨i, List.mem_range.mpr hi, rfl⟩⟩
section REP
variable {w : zW} {D : va_G} {dA : Nat → ClassId} {A : Nat → Prop} {φ : zF} {σ σ' : zS} {H H1 : Heap}
theorem zRep.at (h : zRep w D dA A φ σ H) {t i : Nat} (ht : t < 200) (hi : i < σ.1 t) : ∃ q0 : Nat, (zL w dA φ σ)[q0]? = some (φ t i, zE w dA φ σ t i) := List.getElem?_of_mem (zL_mem.mpr ⟨t, i, ht, hi, rfl⟩)
theorem zRep.P (h : zRep w D dA A φ σ H) : va_P D vwCl (zL w dA φ σ) H := by
  intro k q hk
  obtain ⟨t, i, ht, hi, rfl⟩ := zL_mem.mp (List.mem_of_getElem? hk)
  exact (h.1 t i ht hi).1
theorem zRep.nodup (h : zRep w D dA A φ σ H) : ((zL w dA φ σ).map Prod.fst).Nodup := by
  unfold zL List.Nodup
  rw [List.pairwise_map, List.pairwise_flatMap]
  constructor
  · intro t ht
    rw [List.pairwise_map]
    refine List.Pairwise.imp_of_mem ?_ (List.nodup_range (n := σ.1 t))
    intro a b ha hb hab e
    have ht := List.mem_range.mp ht
    exact hab (h.2.1 t a t b ht (List.mem_range.mp ha) ht (List.mem_range.mp hb) e).2
  · refine List.Pairwise.imp_of_mem ?_ (List.nodup_range (n := 200))
    intro t u ht hu htu x hx y hy e
    obtain ⟨i, hi, rfl⟩ := List.mem_map.mp hx
    obtain ⟨j, hj, rfl⟩ := List.mem_map.mp hy
    exact htu (h.2.1 t i u j (List.mem_range.mp ht) (List.mem_range.mp hi) (List.mem_range.mp hu) (List.mem_range.mp hj) e).1
theorem zRep.dd (h : zRep w D dA A φ σ H) : va_D A (zL w dA φ σ) := by
  refine ⟨fun i j p q hi hj e => ?_, fun k q hk => ?_⟩
  · have hl : i < ((zL w dA φ σ).map Prod.fst).length := by
      rw [List.length_map]; exact (List.getElem?_eq_some_iff.mp hi).1
    refine (List.getElem?_inj hl h.nodup).mp ?_
    rw [List.getElem?_map, List.getElem?_map, hi, hj]
    show some p.1 = some q.1
    rw [e]
  · obtain ⟨t, i, ht, hi, rfl⟩ := zL_mem.mp (List.mem_of_getElem? hk)
    exact (h.1 t i ht hi).2
theorem zRep.kept (h : zRep w D dA A φ σ H) (hk : ∀ q, q < H.size → A q → H1[q]? = H[q]?) : zRep w D dA A φ σ H1 :=
  ⟨fun t i ht hi => ⟨(h.1 t i ht hi).1.kept (hk _ (h.1 t i ht hi).1.lt (h.1 t i ht hi).2), (h.1 t i ht hi).2⟩, h.2⟩
theorem zRep.weaken {B : Nat → Prop} (h : zRep w D dA A φ σ H) (hk : ∀ t i, t < 200 → i < σ.1 t → A (φ t i) → B (φ t i)) : zRep w D dA B φ σ H :=
  ⟨fun t i ht hi => ⟨(h.1 t i ht hi).1, hk t i ht hi (h.1 t i ht hi).2⟩, h.2⟩
theorem zRep_set (h : zRep w D dA A φ σ H) {t i q0 : Nat} (ht : t < 200) (hi : i < σ.1 t) (hq : (zL w dA φ σ)[q0]? = some (φ t i, zE w dA φ σ t i))
    (hP : va_P D vwCl ((zL w dA φ σ).set q0 (φ t i, zE w dA φ σ' t i)) H1) (hn : σ'.1 = σ.1) (ho : ∀ t' i', (t' ≠ t ∨ i' ≠ i) → zE w dA φ σ' t' i' = zE w dA φ σ t' i') (hv : zRv w σ') : zRep w D dA A φ σ' H1 := by
  refine ⟨fun t' i' ht' hi' => ⟨?_, ?_⟩, ?_, hv⟩
  · rw [hn] at hi'
    by_cases e : t' = t ∧ i' = i
    · obtain ⟨rfl, rfl⟩ := e
      refine hP q0 _ ?_
      rw [List.getElem?_set_self (List.getElem?_eq_some_iff.mp hq).1]
    · have e2 : t' ≠ t ∨ i' ≠ i := by
        by_cases e3 : t' = t
        · exact Or.inr fun z => e ⟨e3, z⟩
        · exact Or.inl e3
      obtain ⟨q1, hq1⟩ := h.at ht' hi'
      have hne : q0 ≠ q1 := by
        intro e3
        rw [← e3, hq] at hq1
        have e4 : φ t i = φ t' i' := congrArg Prod.fst (Option.some.inj hq1)
        have e5 := h.2.1 t i t' i' ht hi ht' hi' e4
        rcases e2 with e2 | e2
        · exact e2 e5.1.symm
        · exact e2 e5.2.symm
      rw [ho t' i' e2]
      refine hP q1 _ ?_
      rw [List.getElem?_set_ne hne]
      exact hq1
  · rw [hn] at hi'
    exact (h.1 t' i' ht' hi').2
  · rw [hn]
    exact h.2.1
end REP
/-! states: what is read, what is written -/
def gN (σ : zS) (t : Nat) : Nat := σ.1 t
def gI (σ : zS) (t i k : Nat) : Int := σ.2.1 t i k
def gR (σ : zS) (t i k : Nat) : Option Nat := σ.2.2 t i k
def sI (σ : zS) (t i k : Nat) (z : Int) : zS := (σ.1, fun t' i' k' => if t' = t ∧ i' = i ∧ k' = k then z else σ.2.1 t' i' k', σ.2.2)
def sR (σ : zS) (t i k : Nat) (r : Option Nat) : zS := (σ.1, σ.2.1, fun t' i' k' => if t' = t ∧ i' = i ∧ k' = k then r else σ.2.2 t' i' k')
def sN (σ : zS) (t : Nat) : zS := (fun t' => if t' = t then σ.1 t + 1 else σ.1 t', fun t' i' k' => if t' = t ∧ i' = σ.1 t then 0 else σ.2.1 t' i' k', fun t' i' k' => if t' = t ∧ i' = σ.1 t then none else σ.2.2 t' i' k')
/-- n elements of array (t, i) from sp on go to array (u, j), from dp on -/
def sCp (σ : zS) (t i sp u j dp n : Nat) : zS := (σ.1, fun t' i' k' => if t' = u ∧ i' = j ∧ dp ≤ k' ∧ k' < dp + n then σ.2.1 t i (sp + (k' - dp)) else σ.2.1 t' i' k', σ.2.2)
def g_ {α : Type} (c : Prop) [Decidable c] (o : Option α) : Option α := if c then o else none
def nm_ {α β : Type} (v : α) (k : α → β) : β := k v
def up_ {β : Type} (σ : zS) (k : zS → β) : β := k σ
def cl_ {α β : Type} (o : Option (α × zS)) (k : α → zS → Option β) : Option β := o.bind fun p => k p.1 p.2
theorem zE_sI {w : zW} {dA : Nat → ClassId} {φ : zF} {σ : zS} {t i k : Nat} {z : Int} (t' i' : Nat) (h : t' ≠ t ∨ i' ≠ i) : zE w dA φ (sI σ t i k z) t' i' = zE w dA φ σ t' i' := by
  have e : ∀ k', (sI σ t i k z).2.1 t' i' k' = σ.2.1 t' i' k' := by
    intro k'
    show (if t' = t ∧ i' = i ∧ k' = k then z else σ.2.1 t' i' k') = _
    rw [if_neg]
    rintro ⟨h1, h2, -⟩
    rcases h with h | h
    · exact h h1
    · exact h h2
  unfold zE
  cases w.1 t' with
  | inl q =>
    have e2 : zfv w φ (sI σ t i k z) t' i' = zfv w φ σ t' i' := by
      funext k'
      unfold zfv
      rw [e]
      rfl
    simp only [e2]
  | inr q => cases w.2 t' 0 with
    | none => simp only [e]
    | some u => rfl
theorem zE_sR {w : zW} {dA : Nat → ClassId} {φ : zF} {σ : zS} {t i k : Nat} {z : Option Nat} (t' i' : Nat) (h : t' ≠ t ∨ i' ≠ i) : zE w dA φ (sR σ t i k z) t' i' = zE w dA φ σ t' i' := by
  have e : ∀ k', (sR σ t i k z).2.2 t' i' k' = σ.2.2 t' i' k' := by
    intro k'
    show (if t' = t ∧ i' = i ∧ k' = k then z else σ.2.2 t' i' k') = _
    rw [if_neg]
    rintro ⟨h1, h2, -⟩
    rcases h with h | h
    · exact h h1
    · exact h h2
  unfold zE
  cases w.1 t' with
  | inl q =>
    have e2 : zfv w φ (sR σ t i k z) t' i' = zfv w φ σ t' i' := by
      funext k'
      unfold zfv
      rw [e]
      rfl
    simp only [e2]
  | inr q => cases w.2 t' 0 with
    | none => rfl
    | some u => simp only [e]
theorem zRv_sI {w : zW} {σ : zS} {t i k : Nat} {z : Int} (h : zRv w σ) (hz : zin z) : zRv w (sI σ t i k z) := by
  refine ⟨fun t' i' k' => ?_, h.2⟩
  show zin (if t' = t ∧ i' = i ∧ k' = k then z else σ.2.1 t' i' k')
  split
  · exact hz
  · exact h.1 t' i' k'
theorem zRv_sR {w : zW} {σ : zS} {t i k u : Nat} {r : Option Nat} (h : zRv w σ) (hu : zty w t k = some u) (hr : ∀ j, r = some j → u < 200 ∧ j < σ.1 u) : zRv w (sR σ t i k r) := by
  refine ⟨h.1, fun t' i' k' u' j ht hi hz hj => ?_⟩
  by_cases e : t' = t ∧ i' = i ∧ k' = k
  · obtain ⟨rfl, rfl, rfl⟩ := e
    cases hu.symm.trans hz
    refine hr j ?_
    rw [← hj]
    exact (if_pos ⟨rfl, rfl, rfl⟩).symm
  · refine h.2 t' i' k' u' j ht hi hz ?_
    rw [← hj]
    exact (if_neg e).symm
/-! ===== the statics: the one table of the component, that nobody writes ===== -/
def zWt (j : Nat) : Int := match j with
  | 0 => 1
  | 1 => 3
  | 2 => 6
  | 3 => 12
  | 4 => 30
  | _ => 60
def zSt (tW : Nat) (A : Nat → Prop) (U : State) (H : Heap) : Prop := va_Z "FlyingChange" "WORTH" "[I" (.ref tW) A U H ∧ va_T .int tW 6 (fun j => .int (zI (zWt j))) A U H
theorem zSt.kept {tW : Nat} {A : Nat → Prop} {U : State} {H H1 : Heap} (h : zSt tW A U H) (hq : ∀ a : Nat, a < H.size → ¬ A a → H1[a]? = H[a]?) : zSt tW A U H1 := ⟨h.1.kept hq, h.2.kept hq⟩
theorem zSt.moved {tW : Nat} {A : Nat → Prop} {u U : State} {H : Heap} (hvm : u.vm.Alike U.vm) (h : zSt tW A u H) : zSt tW A U H := ⟨h.1.moved hvm, h.2.moved hvm⟩
theorem zSt.narrow {tW : Nat} {A B : Nat → Prop} {U : State} {H : Heap} (h : zSt tW A U H) (hAB : ∀ q, B q → A q) : zSt tW B U H := ⟨h.1.narrow hAB, h.2.narrow hAB⟩
/-! what is taken of nests and of arrays of references -/
def zNst (U : State) : Prop := ∀ w ∈ zNW, va_Nw w U
theorem zNst.warm {s U : State} (hW : s.WarmedH U.vm) (h : zNst s) : zNst U := by
  intro w hw
  have h0 := h w hw
  have hc : (∃ a b c d, w = Cond.methodLinkNest a b c d) ∨ (∃ a b c d e f, w = Cond.fieldLinkNest a b c d e f) ∨ ∃ C, w = Cond.arrayOver (.object C) := by
    simp only [zNW, List.mem_cons, List.not_mem_nil, or_false] at hw
    rcases hw with rfl | rfl | rfl | rfl | rfl | rfl | rfl | rfl | rfl | rfl | rfl | rfl | rfl <;>
      first | exact Or.inl ⟨_, _, _, _, rfl⟩ | exact Or.inr (Or.inl ⟨_, _, _, _, _, _, rfl⟩) | exact Or.inr (Or.inr ⟨_, rfl⟩)
  rcases hc with ⟨a, b, c, d, rfl⟩ | ⟨a, b, c, d, e, f, rfl⟩ | ⟨C, rfl⟩
  · exact va_Nw.warmM hW h0
  · exact va_Nw.warmF hW h0
  · exact va_AO.moved hW.alike h0
def zTys (dA : Nat → ClassId) : List (ClassId × FieldType) := [(dA 0, .int), (dA 1, .boolean), (dA 2, .object "FlyingChange$Post"), (dA 3, .object "FlyingChange$Cup"), (dA 4, .object "FlyingChange$Clerk")]

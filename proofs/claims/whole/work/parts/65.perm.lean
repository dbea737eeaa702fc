/-! ===== lines of cups, in their order ===== -/
def ext (s : Nat) : Nat → List Nat → List (List Nat)
  | 0, pre => [pre]
  | r + 1, pre => (List.range s).flatMap fun x => if pre.contains x then [] else ext s r (pre ++ [x])
def sc1 (a : Nat → Nat) : Nat → Option Nat
  | 0 => none
  | k + 1 => if a (k + 1) < a k then sc1 a k else some k
def sc2 (a : Nat → Nat) (y : Nat) : Nat → Nat
  | 0 => 0
  | k + 1 => if a (k + 1) < a y then sc2 a y k else k + 1
def sw (a : Nat → Nat) (x y : Nat) : Nat → Nat := fun i => if i = y then a x else if i = x then a y else a i
def rv : Nat → (Nat → Nat) → Nat → Nat → Nat → Nat
  | 0, a, _, _ => a
  | n + 1, a, x, y => if x < y then rv n (sw a x y) (x + 1) (y - 1) else a
def nextA (s : Nat) (a : Nat → Nat) : Option (Nat → Nat) := match sc1 a (s - 1) with
  | none => none
  | some y => some (rv s (sw a y (sc2 a y (s - 1))) (y + 1) (s - 1))
def fnl (l : List Nat) : Nat → Nat := fun i => l.getD i 0
def nextL (s : Nat) (l : List Nat) : Option (List Nat) := match nextA s (fnl l) with
  | none => none
  | some a => some ((List.range s).map a)
def chk (s : Nat) : List (List Nat) → Bool
  | [] => true
  | [l] => (nextL s l).isNone
  | l :: l' :: r => (nextL s l == some l') && chk s (l' :: r)
set_option maxRecDepth 100000 in
theorem chk_all : ∀ s, s < 7 → 0 < s → chk s (ext s s []) = true := by
  intro s h h0
  have : s = 1 ∨ s = 2 ∨ s = 3 ∨ s = 4 ∨ s = 5 ∨ s = 6 := by omega
  rcases this with rfl | rfl | rfl | rfl | rfl | rfl <;> decide +kernel
theorem ext_head : ∀ s, s < 7 → 0 < s → (ext s s []).head? = some (List.range s) := by
  intro s h h0
  have : s = 1 ∨ s = 2 ∨ s = 3 ∨ s = 4 ∨ s = 5 ∨ s = 6 := by omega
  rcases this with rfl | rfl | rfl | rfl | rfl | rfl <;> decide +kernel
/-- what a line of cups comes to -/
def mgl (w d : Nat → Int) (l : List Nat) : Nat → Int
  | 0 => 0
  | i + 1 => imax (mgl w d l i) (wr (w (fnl l i) + d i))
def stp (w d : Nat → Int) (s : Nat) (S : Int × List Nat) (l : List Nat) : Int × List Nat := if mgl w d l s < S.1 then (mgl w d l s, l) else S
theorem mgl_cg (w d : Nat → Int) (l l' : List Nat) : ∀ i, (∀ j, j < i → fnl l j = fnl l' j) → mgl w d l i = mgl w d l' i
  | 0, _ => rfl
  | i + 1, h => by
    unfold mgl
    rw [mgl_cg w d l l' i fun j hj => h j (by omega), h i (by omega)]
theorem mgl_mono (w d : Nat → Int) (l : List Nat) : ∀ i j, i ≤ j → mgl w d l i ≤ mgl w d l j
  | i, 0, h => by have : i = 0 := by omega
                  subst this; exact Int.le_refl _
  | i, j + 1, h => by
    by_cases e : i = j + 1
    · subst e; exact Int.le_refl _
    · have := mgl_mono w d l i j (by omega)
      have q : mgl w d l (j + 1) = imax (mgl w d l j) (wr (w (fnl l j) + d j)) := rfl
      unfold imax at q
      split at q <;> omega
/-- every line of ext goes on from its prefix -/
theorem ext_pre (s : Nat) : ∀ (r : Nat) (pre l : List Nat), l ∈ ext s r pre → l.take pre.length = pre ∧ l.length = pre.length + r
  | 0, pre, l, h => by
    unfold ext at h
    have : l = pre := by simpa using h
    subst this
    simp
  | r + 1, pre, l, h => by
    unfold ext at h
    rw [List.mem_flatMap] at h
    obtain ⟨x, -, h⟩ := h
    by_cases c : pre.contains x = true
    · rw [if_pos c] at h; cases h
    · rw [if_neg c] at h
      obtain ⟨a, b⟩ := ext_pre s r (pre ++ [x]) l h
      rw [List.length_append, List.length_singleton] at a b
      refine ⟨?_, by omega⟩
      have := congrArg (List.take pre.length) a
      rw [List.take_take, Nat.min_eq_left (by omega)] at this
      rw [this]; simp
/-- pruned: no line beyond is strictly less -/
theorem prune (w d : Nat → Int) (s : Nat) (S : Int × List Nat) (pre : List Nat) : ∀ L : List (List Nat), (∀ l ∈ L, l.take pre.length = pre) → pre.length ≤ s → S.1 ≤ mgl w d pre pre.length → L.foldl (stp w d s) S = S
  | [], _, _, _ => rfl
  | l :: L, h, hp, hg => by
    have e : stp w d s S l = S := by
      unfold stp
      rw [if_neg]
      have t := h l (List.mem_cons_self ..)
      have c : mgl w d l pre.length = mgl w d pre pre.length := mgl_cg w d l pre _ fun j hj => by
        have q : fnl l j = fnl (l.take pre.length) j := by
          unfold fnl
          rw [List.getD_eq_getElem?_getD, List.getD_eq_getElem?_getD, List.getElem?_take, if_pos hj]
        rw [q, t]
      have m := mgl_mono w d l pre.length s hp
      omega
    rw [List.foldl_cons, e]
    exact prune w d s S pre L (fun l hl => h l (List.mem_cons_of_mem _ hl)) hp hg
/-- the lines from a prefix on, told by the next cup -/
theorem ext_s (s r : Nat) (pre : List Nat) : ext s (r + 1) pre = (List.range s).flatMap fun x => if pre.contains x then [] else ext s r (pre ++ [x]) := rfl
/-- the walk: x from k on -/
def extk (s r : Nat) (pre : List Nat) : Nat → List (List Nat)
  | 0 => []
  | m + 1 => (if pre.contains (s - (m + 1)) then [] else ext s r (pre ++ [s - (m + 1)])) ++ extk s r pre m
theorem range'_flat (f : Nat → List (List Nat)) (s : Nat) : ∀ m, m ≤ s → (List.range' (s - m) m).flatMap f = (fun g : Nat → List (List Nat) => g m) (fun m => Nat.rec (motive := fun _ => List (List Nat)) [] (fun m ih => f (s - (m + 1)) ++ ih) m)
  | 0, _ => rfl
  | m + 1, h => by
    have e : s - (m + 1) + 1 = s - m := by omega
    rw [List.range'_succ, List.flatMap_cons, e, range'_flat f s m (by omega)]
theorem ext_k (s r : Nat) (pre : List Nat) : ext s (r + 1) pre = extk s r pre s := by
  rw [ext_s, List.range_eq_range']
  have q := range'_flat (fun x => if pre.contains x then [] else ext s r (pre ++ [x])) s s (Nat.le_refl s)
  rw [Nat.sub_self] at q
  rw [q]
  have : ∀ m, (Nat.rec (motive := fun _ => List (List Nat)) [] (fun m ih => (fun x => if pre.contains x then [] else ext s r (pre ++ [x])) (s - (m + 1)) ++ ih) m : List (List Nat)) = extk s r pre m := by
    intro m
    induction m with
    | zero => rfl
    | succ m ih => unfold extk; rw [← ih]
  exact this s

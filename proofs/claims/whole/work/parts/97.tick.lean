/-! ===== tick ===== -/
theorem P_tick {X M : zS} (h : zR X M) {nf : Nat} (hnf : 1000 ≤ nf) (x1 : Int) (h1 : zin x1) : ∃ r X' M', fX10_tick nf X 0 x1 = some (r, X') ∧ fX11_tick nf M 0 x1 = some (r, M') ∧ zR X' M' :=
  tick_of hnf (ph_move hnf) (ph_serve hnf) (ph_bring hnf) (ph_take hnf) (ph_let hnf) h x1 h1

def zR (X M : zS) : Prop := X.1 0 = 1 ∧ M.1 64 = 1
theorem zR_n {X M : zS} (h : zR X M) : 0 < X.1 0 ∧ 0 < M.1 64 := by rw [h.1, h.2]; decide
def z0 : zS := (fun _ => 0, fun _ _ _ => 0, fun _ _ _ => none)
theorem P_init : ∃ X' M', fX10_init (sN z0 0) 0 = some ((), X') ∧ fX11_init (sN z0 64) 0 = some ((), M') ∧ zR X' M' := sorry
theorem P_post {X M : zS} (h : zR X M) {nf : Nat} (hnf : 1000 ≤ nf) (x1 x2 x3 x4 x5 : Int) (h1 : zin x1) (h2 : x2 = 0 ∨ x2 = 1) (h3 : zin x3) (h4 : zin x4) (h5 : x5 = 0 ∨ x5 = 1) : ∃ r X' M', fX10_post X 0 x1 x2 x3 x4 x5 = some (r, X') ∧ fX11_post M 0 x1 x2 x3 x4 x5 = some (r, M') ∧ zR X' M' := sorry
theorem P_joint {X M : zS} (h : zR X M) {nf : Nat} (hnf : 1000 ≤ nf) (x1 x2 x3 : Int) (h1 : zin x1) (h2 : zin x2) (h3 : zin x3) : ∃ r X' M', fX10_joint X 0 x1 x2 x3 = some (r, X') ∧ fX11_joint M 0 x1 x2 x3 = some (r, M') ∧ zR X' M' := sorry
theorem P_about {X M : zS} (h : zR X M) {nf : Nat} (hnf : 1000 ≤ nf) (x1 x2 : Int) (h1 : zin x1) (h2 : zin x2) : ∃ r X' M', fX10_about X 0 x1 x2 = some (r, X') ∧ fX11_about M 0 x1 x2 = some (r, M') ∧ zR X' M' := sorry
theorem P_cord {X M : zS} (h : zR X M) {nf : Nat} (hnf : 1000 ≤ nf) (x1 x2 : Int) (h1 : zin x1) (h2 : x2 = 0 ∨ x2 = 1) : ∃ r X' M', fX10_cord X 0 x1 x2 = some (r, X') ∧ fX11_cord M 0 x1 x2 = some (r, M') ∧ zR X' M' := sorry
theorem P_cup {X M : zS} (h : zR X M) {nf : Nat} (hnf : 1000 ≤ nf) (x1 : Int) (h1 : zin x1) : ∃ r X' M', fX10_cup X 0 x1 = some (r, X') ∧ fX11_cup M 0 x1 = some (r, M') ∧ zR X' M' := sorry
theorem P_clerk {X M : zS} (h : zR X M) {nf : Nat} (hnf : 1000 ≤ nf) (x1 : Int) (h1 : zin x1) : ∃ r X' M', fX10_clerk X 0 x1 = some (r, X') ∧ fX11_clerk M 0 x1 = some (r, M') ∧ zR X' M' := sorry
theorem P_order {X M : zS} (h : zR X M) {nf : Nat} (hnf : 1000 ≤ nf) (x1 : Int) (h1 : zin x1) : ∃ r X' M', fX10_order X 0 x1 = some (r, X') ∧ fX11_order M 0 x1 = some (r, M') ∧ zR X' M' := sorry
theorem P_drawer {X M : zS} (h : zR X M) {nf : Nat} (hnf : 1000 ≤ nf) (x1 x2 : Int) (h1 : zin x1) (h2 : zin x2) : ∃ r X' M', fX10_drawer X 0 x1 x2 = some (r, X') ∧ fX11_drawer M 0 x1 x2 = some (r, M') ∧ zR X' M' := sorry
theorem P_fetch {X M : zS} (h : zR X M) {nf : Nat} (hnf : 1000 ≤ nf) (x1 x2 x3 : Int) (h1 : zin x1) (h2 : zin x2) (h3 : zin x3) : ∃ r X' M', fX10_fetch X 0 x1 x2 x3 = some (r, X') ∧ fX11_fetch M 0 x1 x2 x3 = some (r, M') ∧ zR X' M' := sorry
theorem P_send {X M : zS} (h : zR X M) {nf : Nat} (hnf : 1000 ≤ nf) (x1 x2 x3 x4 : Int) (h1 : zin x1) (h2 : zin x2) (h3 : zin x3) (h4 : zin x4) : ∃ r X' M', fX10_send X 0 x1 x2 x3 x4 = some (r, X') ∧ fX11_send M 0 x1 x2 x3 x4 = some (r, M') ∧ zR X' M' := sorry
theorem P_resend {X M : zS} (h : zR X M) {nf : Nat} (hnf : 1000 ≤ nf) (x1 : Int) (h1 : zin x1) : ∃ r X' M', fX10_resend X 0 x1 = some (r, X') ∧ fX11_resend M 0 x1 = some (r, M') ∧ zR X' M' := sorry
theorem P_porter {X M : zS} (h : zR X M) {nf : Nat} (hnf : 1000 ≤ nf) (x1 : Int) (h1 : zin x1) : ∃ r X' M', fX10_porter nf X 0 x1 = some (r, X') ∧ fX11_porter nf M 0 x1 = some (r, M') ∧ zR X' M' := sorry
theorem P_cupAt {X M : zS} (h : zR X M) {nf : Nat} (hnf : 1000 ≤ nf) (x1 x2 : Int) (h1 : zin x1) (h2 : zin x2) : ∃ r X' M', fX10_cupAt X 0 x1 x2 = some (r, X') ∧ fX11_cupAt nf M 0 x1 x2 = some (r, M') ∧ zR X' M' := sorry
theorem P_coins {X M : zS} (h : zR X M) {nf : Nat} (hnf : 1000 ≤ nf) (x1 x2 : Int) (h1 : zin x1) (h2 : zin x2) : ∃ r X' M', fX10_coins nf X 0 x1 x2 = some (r, X') ∧ fX11_coins nf M 0 x1 x2 = some (r, M') ∧ zR X' M' := sorry
theorem P_tick {X M : zS} (h : zR X M) {nf : Nat} (hnf : 1000 ≤ nf) (x1 : Int) (h1 : zin x1) : ∃ r X' M', fX10_tick nf X 0 x1 = some (r, X') ∧ fX11_tick nf M 0 x1 = some (r, M') ∧ zR X' M' := sorry
theorem P_row {X M : zS} (h : zR X M) {nf : Nat} (hnf : 1000 ≤ nf) (x1 : Int) (h1 : zin x1) : ∃ r X' M', fX10_row nf X 0 x1 = some (r, X') ∧ fX11_row nf M 0 x1 = some (r, M') ∧ zR X' M' := sorry
theorem P_clerkAt {X M : zS} (h : zR X M) {nf : Nat} (hnf : 1000 ≤ nf) (x1 x2 : Int) (h1 : zin x1) (h2 : zin x2) : ∃ r X' M', fX10_clerkAt X 0 x1 x2 = some (r, X') ∧ fX11_clerkAt M 0 x1 x2 = some (r, M') ∧ zR X' M' := sorry
theorem P_till {X M : zS} (h : zR X M) {nf : Nat} (hnf : 1000 ≤ nf) (x1 : Int) (h1 : zin x1) : ∃ r X' M', fX10_till nf X 0 x1 = some (r, X') ∧ fX11_till nf M 0 x1 = some (r, M') ∧ zR X' M' := sorry
theorem P_could {X M : zS} (h : zR X M) {nf : Nat} (hnf : 1000 ≤ nf) (x1 : Int) (h1 : zin x1) : ∃ r X' M', fX10_could nf X 0 x1 = some (r, X') ∧ fX11_could nf M 0 x1 = some (r, M') ∧ zR X' M' := sorry
theorem P_gives {X M : zS} (h : zR X M) {nf : Nat} (hnf : 1000 ≤ nf) (x1 x2 : Int) (h1 : zin x1) (h2 : zin x2) : ∃ r X' M', fX10_gives nf X 0 x1 x2 = some (r, X') ∧ fX11_gives nf M 0 x1 x2 = some (r, M') ∧ zR X' M' := sorry
theorem P_on {X M : zS} (h : zR X M) {nf : Nat} (hnf : 1000 ≤ nf) (x1 x2 : Int) (h1 : zin x1) (h2 : x2 = 0 ∨ x2 = 1) : ∃ r X' M', fX10_on nf X 0 x1 x2 = some (r, X') ∧ fX11_on nf M 0 x1 x2 = some (r, M') ∧ zR X' M' := sorry
theorem P_waits {X M : zS} (h : zR X M) {nf : Nat} (hnf : 1000 ≤ nf) (x1 x2 : Int) (h1 : zin x1) (h2 : zin x2) : ∃ r X' M', fX10_waits X 0 x1 x2 = some (r, X') ∧ fX11_waits M 0 x1 x2 = some (r, M') ∧ zR X' M' := sorry
theorem P_worst {X M : zS} (h : zR X M) {nf : Nat} (hnf : 1000 ≤ nf) : ∃ r X' M', fX10_worst nf X 0 = some (r, X') ∧ fX11_worst nf M 0 = some (r, M') ∧ zR X' M' := sorry
theorem P_best {X M : zS} (h : zR X M) {nf : Nat} (hnf : 1000 ≤ nf) (x1 : Int) (h1 : zin x1) : ∃ r X' M', fX10_best nf X 0 x1 = some (r, X') ∧ fX11_best nf M 0 x1 = some (r, M') ∧ zR X' M' := sorry
theorem P_worstBy {X M : zS} (h : zR X M) {nf : Nat} (hnf : 1000 ≤ nf) (x1 : Int) (h1 : zin x1) : ∃ r X' M', fX10_worstBy nf X 0 x1 = some (r, X') ∧ fX11_worstBy nf M 0 x1 = some (r, M') ∧ zR X' M' := sorry
theorem P_rush {X M : zS} (h : zR X M) {nf : Nat} (hnf : 1000 ≤ nf) (x1 x2 x3 : Int) (h1 : zin x1) (h2 : zin x2) (h3 : zin x3) : ∃ r X' M', fX10_rush nf X 0 x1 x2 x3 = some (r, X') ∧ fX11_rush M 0 x1 x2 x3 = some (r, M') ∧ zR X' M' := sorry
theorem P_load {X M : zS} (h : zR X M) {nf : Nat} (hnf : 1000 ≤ nf) (x1 x2 : Int) (h1 : zin x1) (h2 : zin x2) : ∃ r X' M', fX10_load X 0 x1 x2 = some (r, X') ∧ fX11_load nf M 0 x1 x2 = some (r, M') ∧ zR X' M' := sorry
theorem P_lines {X M : zS} (h : zR X M) {nf : Nat} (hnf : 1000 ≤ nf) (x1 : Int) (h1 : zin x1) : ∃ r X' M', fX10_lines nf X 0 x1 = some (r, X') ∧ fX11_lines nf M 0 x1 = some (r, M') ∧ zR X' M' := sorry
theorem P_wanted {X M : zS} (h : zR X M) {nf : Nat} (hnf : 1000 ≤ nf) : ∃ r X' M', fX10_wanted nf X 0 = some (r, X') ∧ fX11_wanted nf M 0 = some (r, M') ∧ zR X' M' := sorry
theorem P_vital {X M : zS} (h : zR X M) {nf : Nat} (hnf : 1000 ≤ nf) (x1 : Int) (h1 : zin x1) : ∃ r X' M', fX10_vital nf X 0 x1 = some (r, X') ∧ fX11_vital nf M 0 x1 = some (r, M') ∧ zR X' M' := sorry
theorem P_loss {X M : zS} (h : zR X M) {nf : Nat} (hnf : 1000 ≤ nf) (x1 x2 : Int) (h1 : zin x1) (h2 : zin x2) : ∃ r X' M', fX10_loss X 0 x1 x2 = some (r, X') ∧ fX11_loss nf M 0 x1 x2 = some (r, M') ∧ zR X' M' := sorry
theorem P_bells {X M : zS} (h : zR X M) {nf : Nat} (hnf : 1000 ≤ nf) : ∃ r X' M', fX10_bells X 0 = some (r, X') ∧ fX11_bells M 0 = some (r, M') ∧ zR X' M' := sorry
theorem P_bell {X M : zS} (h : zR X M) {nf : Nat} (hnf : 1000 ≤ nf) (x1 x2 : Int) (h1 : zin x1) (h2 : x2 = 0 ∨ x2 = 1) : ∃ r X' M', fX10_bell X 0 x1 x2 = some (r, X') ∧ fX11_bell M 0 x1 x2 = some (r, M') ∧ zR X' M' := sorry
theorem P_mayBe {X M : zS} (h : zR X M) {nf : Nat} (hnf : 1000 ≤ nf) (x1 : Int) (h1 : zin x1) : ∃ r X' M', fX10_mayBe nf X 0 x1 = some (r, X') ∧ fX11_mayBe nf M 0 x1 = some (r, M') ∧ zR X' M' := sorry
theorem P_total {X M : zS} (h : zR X M) {nf : Nat} (hnf : 1000 ≤ nf) (x1 : Int) (h1 : zin x1) : ∃ r X' M', fX10_total nf X 0 x1 = some (r, X') ∧ fX11_total nf M 0 x1 = some (r, M') ∧ zR X' M' := sorry

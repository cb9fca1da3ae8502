theorem law_true {σ : XS} {x : Nat} (hx : 0 < x) (h : XI x 60 σ) : w_L_law μL σ x (fun v => v = 1) := sorry

/-! ===== nothing that lives has changed ===== -/
def Agr (σ σ' : XS) : Prop := (∀ q, xk σ q ≠ 0 → xk σ' q = xk σ q ∧ (∀ c, xi σ' c q = xi σ c q) ∧ (∀ c, xj σ' c q = xj σ c q) ∧ ∀ c, xr σ' c q = xr σ c q) ∧ (∀ i, xi σ' 240 i = xi σ 240 i) ∧ (∀ i, xi σ' 241 i = xi σ 241 i) ∧ (∀ i, xr σ' 242 i = xr σ 242 i) ∧ (∀ z, xr σ' 223 z = xr σ 223 z) ∧ (∀ j, xn σ' j = xn σ j) ∧ ∀ j i, xe σ' j i = xe σ j i
theorem agr_lst {σ σ' : XS} {j K n : Nat} (g : Agr σ σ') (hK : K ≠ 0) (h : Lst σ j K n) : Lst σ' j K n := by
  obtain ⟨g1, -, -, -, -, g6, g7⟩ := g
  obtain ⟨h1, h2, h3⟩ := h
  refine ⟨(g6 j).trans h1, fun i hi => ?_, fun i k hi hk z => ?_⟩
  · rw [g7, (g1 _ (by rw [h2 i hi]; exact hK)).1]; exact h2 i hi
  · rw [g7, g7] at z; exact h3 i k hi hk z
theorem agr_sig {σ σ' : XS} {n0 q : Nat} {c ni se le li : Int32} (g : Agr σ σ') (h : RSig σ n0 q c ni se le li) : RSig σ' n0 q c ni se le li := by
  obtain ⟨h1, ⟨k, k1, k2, k3⟩, h3, h4, h5, h6, h7⟩ := h
  obtain ⟨g1, -, -, -, -, -, g7⟩ := g
  obtain ⟨a1, a2, a3, a4⟩ := g1 q (by rw [h1]; decide)
  exact ⟨a1.trans h1, ⟨k, k1, k2, by rw [a4, g7]; exact k3⟩, (a2 _).trans h3, (a2 _).trans h4, (a2 _).trans h5, (a2 _).trans h6, h7⟩
theorem agr_rep {σ σ' : XS} {x : Nat} {μ : MS} {n0 n1 n2 n4 n5 n6 : Nat} (g : Agr σ σ') (h : Rep0 σ x μ n0 n1 n2 n4 n5 n6) : Rep0 σ' x μ n0 n1 n2 n4 n5 n6 := by
  have G := g
  obtain ⟨g1, g2, g3, g4, g5, g6, g7⟩ := g
  obtain ⟨h0, hc, hl, hb, hs, hw, hk, ht, hla, hn, hr, h3, x5, x6, x9⟩ := h
  have at' : ∀ {j K n i}, Lst σ j K n → K ≠ 0 → i < n → (∀ c, xi σ' c (xe σ j i) = xi σ c (xe σ j i)) ∧ (∀ c, xr σ' c (xe σ j i) = xr σ c (xe σ j i)) := fun h hK hi => by
    obtain ⟨-, a2, -, a4⟩ := g1 _ (by rw [h.2.1 _ hi]; exact hK)
    exact ⟨a2, a4⟩
  refine ⟨h0, ?_, ?_, ?_, ?_, ?_, ?_, ?_, ?_, ?_, ?_, agr_lst G (by decide) h3, ?_, ?_, ?_⟩
  · obtain ⟨c1, c2, c3, c4⟩ := hc
    refine ⟨c1, c2, agr_lst G (by decide) c3, fun i hi => ?_⟩
    obtain ⟨a1, -⟩ := at' c3 (by decide) hi
    rw [g7, a1, a1, a1]
    exact c4 i hi
  · obtain ⟨c1, c2, c3, c4, c5⟩ := hl
    refine ⟨c1, c2, agr_lst G (by decide) c3, fun i hi => ?_, c5⟩
    obtain ⟨a1, a2⟩ := at' c3 (by decide) hi
    obtain ⟨c, d1, d2, d3, d4⟩ := c4 i hi
    refine ⟨c, d1, d2, ?_, ?_⟩
    · rw [g7, g7, a2]; exact d3
    · rw [g7, a1]; exact d4
  · rcases hb with ⟨b1, b2⟩ | ⟨b1, b2, b3⟩
    · exact Or.inl ⟨b1, (g5 x).trans b2⟩
    · refine Or.inr ?_
      rw [g5]
      exact ⟨b1, fun i hi => by rw [g7]; exact b2 i hi, agr_sig G b3⟩
  · obtain ⟨c1, c2, c3, c4⟩ := hs
    refine ⟨c1, c2, agr_lst G (by decide) c3, fun i hi => ?_⟩
    obtain ⟨a1, -⟩ := at' c3 (by decide) hi
    obtain ⟨d1, d2, d3, d4, d5, d6⟩ := c4 i hi
    rw [g7, a1, a1, a1, a1]
    exact ⟨agr_sig G d1, d2, d3, d4, d5, d6⟩
  · obtain ⟨c1, c0, c2, c3, c4, c5⟩ := hw
    refine ⟨c1, fun i hi => by rw [g7]; exact c0 i hi, c2, agr_lst G (by decide) c3, fun i hi => ?_, c5⟩
    obtain ⟨a1, -⟩ := at' c3 (by decide) hi
    rw [g7, a1, a1, a1]
    exact c4 i hi
  · obtain ⟨c1, c2, c3, c4⟩ := hk
    refine ⟨c1, c2, agr_lst G (by decide) c3, fun i hi => ?_⟩
    obtain ⟨a1, -⟩ := at' c3 (by decide) hi
    rw [g7, a1, a1, a1, a1, a1]
    exact c4 i hi
  · obtain ⟨c1, c0, cz, c2, c3, c4⟩ := ht
    refine ⟨c1, fun i hi => by rw [g7]; exact c0 i hi, cz, c2, agr_lst G (by decide) c3, fun i hi => ?_⟩
    obtain ⟨a1, a2⟩ := at' c3 (by decide) hi
    have := c4 i hi
    rw [g7]
    simp only [a1, a2, g7]
    exact this
  · intro i hi
    rw [g2]; exact hla i hi
  · intro i hi
    obtain ⟨d1, d2⟩ := hn i hi
    refine ⟨(g3 i).trans d1, d2.trans (congrArg nI ?_)⟩
    have : ∀ n, n ≤ n6 → cnt (fun k => xi σ 173 (xe σ 6 k)) (nI i) n = cnt (fun k => xi σ' 173 (xe σ' 6 k)) (nI i) n := by
      intro n
      induction n with
      | zero => intro _; rfl
      | succ n ih =>
        intro hle
        show cnt _ _ n + (if xi σ 173 (xe σ 6 n) = nI i then 1 else 0) = cnt _ _ n + (if xi σ' 173 (xe σ' 6 n) = nI i then 1 else 0)
        rw [ih (by omega), g7, (at' ht.2.2.2.2.1 (by decide) (by omega : n < n6)).1]
    exact this n6 (Nat.le_refl _)
  · intro i hi
    rcases hr i hi with ⟨d1, d2⟩ | ⟨d1, d2, d3, d4, d5⟩
    · exact Or.inl ⟨d1, (g4 i).trans d2⟩
    · obtain ⟨a1, a2, -⟩ := g1 (xr σ 242 i) (by rw [d2]; decide)
      refine Or.inr ⟨d1, ?_⟩
      rw [g4, a1, a2, a2]
      exact ⟨d2, d3, d4, d5⟩
  · rw [(g1 (x + 5) (by rw [x5]; decide)).1]; exact x5
  · rw [(g1 (x + 6) (by rw [x6]; decide)).1]; exact x6
  · rw [(g1 (x + 9) (by rw [x9]; decide)).1]; exact x9
theorem agr_rg {σ σ' : XS} {n : Nat} {s : Nat → Nat → Int32} (g : Agr σ σ') (h2 : Lst σ 2 7 n) (h3 : Lst σ 3 5 60) (h : RG σ n s) : RG σ' n s := by
  obtain ⟨g1, g2, g3, g4, g5, g6, g7⟩ := g
  obtain ⟨r1, r2, r3⟩ := h
  refine ⟨fun k hk m hm => ?_, fun k hk => ?_, fun f hf => ?_⟩
  · obtain ⟨-, -, a3, -⟩ := g1 (xe σ 2 k) (by rw [h2.2.1 k hk]; decide)
    rw [g7, a3]; exact r1 k hk m hm
  · obtain ⟨-, a2, -, -⟩ := g1 (xe σ 2 k) (by rw [h2.2.1 k hk]; decide)
    rw [g7, a2]; exact r2 k hk
  · obtain ⟨-, a2, a3, -⟩ := g1 (xe σ 3 f) (by rw [h3.2.1 f hf]; decide)
    rw [g7]
    refine ⟨fun z => ?_, fun z => by rw [a2]; exact (r3 f hf).2 z⟩
    have := (r3 f hf).1 z
    unfold RR at this ⊢
    rw [a2, a2, a3, a3, a3, a3, a3, a3, a3]
    exact this
/-- a new object, of kind K at q -/
theorem new_xk {σ : XS} {K q : Nat} (z : Nat) : xk (xNew σ K q) z = if z = q then K else xk σ z := rfl
theorem new_xi {σ : XS} {K q c z : Nat} (h : z ≠ q ∨ c / 20 ≠ K) : xi (xNew σ K q) c z = xi σ c z := by
  show (if c / 20 = K then (if z = q then 0 else xi σ c z) else xi σ c z) = xi σ c z
  by_cases h1 : c / 20 = K
  · rw [if_pos h1, if_neg (h.resolve_right (fun g => g h1))]
  · rw [if_neg h1]
theorem new_xj {σ : XS} {K q c z : Nat} (h : z ≠ q ∨ c / 20 ≠ K) : xj (xNew σ K q) c z = xj σ c z := by
  show (if c / 20 = K then (if z = q then 0 else xj σ c z) else xj σ c z) = xj σ c z
  by_cases h1 : c / 20 = K
  · rw [if_pos h1, if_neg (h.resolve_right (fun g => g h1))]
  · rw [if_neg h1]
theorem new_xr {σ : XS} {K q c z : Nat} (h : z ≠ q ∨ c / 20 ≠ K) : xr (xNew σ K q) c z = xr σ c z := by
  show (if c / 20 = K then (if z = q then 0 else xr σ c z) else xr σ c z) = xr σ c z
  by_cases h1 : c / 20 = K
  · rw [if_pos h1, if_neg (h.resolve_right (fun g => g h1))]
  · rw [if_neg h1]
theorem agr_new {σ : XS} {K q : Nat} (h : xk σ q = 0) (hK : K ≤ 10) : Agr σ (xNew σ K q) := by
  refine ⟨fun z hz => ?_, fun i => new_xi (Or.inr (by omega)), fun i => new_xi (Or.inr (by omega)), fun i => new_xr (Or.inr (by omega)), fun i => new_xr (Or.inr (by omega)), fun _ => rfl, fun _ _ => rfl⟩
  have hne : z ≠ q := fun e => hz (by rw [e]; exact h)
  exact ⟨by rw [new_xk, if_neg hne], fun c => new_xi (Or.inl hne), fun c => new_xj (Or.inl hne), fun c => new_xr (Or.inl hne)⟩
theorem agr_tr {a b c : XS} (h : Agr a b) (g : Agr b c) : Agr a c := by
  obtain ⟨h1, h2, h3, h4, h5, h6, h7⟩ := h
  obtain ⟨g1, g2, g3, g4, g5, g6, g7⟩ := g
  refine ⟨fun q hq => ?_, fun i => (g2 i).trans (h2 i), fun i => (g3 i).trans (h3 i), fun i => (g4 i).trans (h4 i), fun i => (g5 i).trans (h5 i), fun i => (g6 i).trans (h6 i), fun i j => (g7 i j).trans (h7 i j)⟩
  obtain ⟨a1, a2, a3, a4⟩ := h1 q hq
  obtain ⟨b1, b2, b3, b4⟩ := g1 q (by rw [a1]; exact hq)
  exact ⟨b1.trans a1, fun c => (b2 c).trans (a2 c), fun c => (b3 c).trans (a3 c), fun c => (b4 c).trans (a4 c)⟩
/-- what lives is not changed by writing into what did not live -/
theorem agr_I {σ τ : XS} {c q : Nat} {v : Int32} (g : Agr σ τ) (h : xk σ q = 0) (hc : c ≠ 240 ∧ c ≠ 241) : Agr σ (xI τ c q v) := by
  obtain ⟨g1, g2, g3, g4, g5, g6, g7⟩ := g
  refine ⟨fun z hz => ?_, fun i => ?_, fun i => ?_, g4, g5, g6, g7⟩
  · obtain ⟨a1, a2, a3, a4⟩ := g1 z hz
    have hne : z ≠ q := fun e => hz (by rw [e]; exact h)
    exact ⟨a1, fun a => by rw [xI_z (Or.inr hne)]; exact a2 a, a3, a4⟩
  · rw [xI_z (Or.inl (fun e => hc.1 e.symm))]; exact g2 i
  · rw [xI_z (Or.inl (fun e => hc.2 e.symm))]; exact g3 i
theorem xR_z {σ : XS} {c q a z : Nat} {v : Nat} (h : a ≠ c ∨ z ≠ q) : xr (xR σ c q v) a z = xr σ a z := by
  show up2 σ.2.2.2.1 c q v a z = _
  rw [up2_at]
  by_cases h1 : a = c
  · rw [if_pos h1, if_neg (h.resolve_left (fun g => g h1))]; rfl
  · rw [if_neg h1]; rfl
theorem xrr_at (σ : XS) (c q : Nat) (v : Nat) (z : Nat) : xr (xR σ c q v) c z = if z = q then v else xr σ c z := by
  show up2 σ.2.2.2.1 c q v c z = _
  rw [up2_at, if_pos rfl]; rfl
theorem agr_R {σ τ : XS} {c q : Nat} {v : Nat} (g : Agr σ τ) (h : xk σ q = 0) (hc : c ≠ 242 ∧ c ≠ 223) : Agr σ (xR τ c q v) := by
  obtain ⟨g1, g2, g3, g4, g5, g6, g7⟩ := g
  refine ⟨fun z hz => ?_, g2, g3, fun i => ?_, fun i => ?_, g6, g7⟩
  · obtain ⟨a1, a2, a3, a4⟩ := g1 z hz
    have hne : z ≠ q := fun e => hz (by rw [e]; exact h)
    exact ⟨a1, a2, a3, fun a => by rw [xR_z (Or.inr hne)]; exact a4 a⟩
  · rw [xR_z (Or.inl (fun e => hc.1 e.symm))]; exact g4 i
  · rw [xR_z (Or.inl (fun e => hc.2 e.symm))]; exact g5 i
theorem rep_l2 {σ : XS} {x : Nat} {μ : MS} {n0 n1 n2 n4 n5 n6 : Nat} (h : Rep0 σ x μ n0 n1 n2 n4 n5 n6) : Lst σ 2 7 n2 ∧ Lst σ 3 5 60 := ⟨h.2.2.2.2.1.2.2.1, h.2.2.2.2.2.2.2.2.2.2.2.1⟩
/-- lists with one more -/
theorem add_xe {σ : XS} {j e a i : Nat} (h : a ≠ j ∨ i ≠ xn σ j) : xe (xAdd σ j e) a i = xe σ a i := by
  show up2 σ.2.2.2.2.2 j (xn σ j) e a i = _
  rw [up2_at]
  by_cases h1 : a = j
  · rw [if_pos h1, if_neg (h.resolve_left (fun g => g h1))]; rfl
  · rw [if_neg h1]; rfl
theorem add_last (σ : XS) (j e : Nat) : xe (xAdd σ j e) j (xn σ j) = e := by
  show up2 σ.2.2.2.2.2 j (xn σ j) e j (xn σ j) = e
  rw [up2_at, if_pos rfl, if_pos rfl]
theorem add_xn (σ : XS) (j e : Nat) : xn (xAdd σ j e) j = xn σ j + 1 := by
  show va_up σ.2.2.2.2.1 j (xn σ j + 1) j = _
  exact va_up_self _ _ _
theorem add_lst {σ : XS} {j K n e : Nat} (h : Lst σ j K n) (hk : xk σ e = K) (hne : ∀ i, i < n → xe σ j i ≠ e) : Lst (xAdd σ j e) j K (n + 1) := by
  obtain ⟨h1, h2, h3⟩ := h
  have el : xe (xAdd σ j e) j n = e := by rw [← h1]; exact add_last σ j e
  have ei : ∀ i, i < n → xe (xAdd σ j e) j i = xe σ j i := fun i hi => add_xe (Or.inr (by omega))
  refine ⟨by rw [add_xn, h1], fun i hi => ?_, fun i k hi hk z => ?_⟩
  · show xk σ (xe (xAdd σ j e) j i) = K
    by_cases c : i = n
    · rw [c, el]; exact hk
    · rw [ei i (by omega)]; exact h2 i (by omega)
  · by_cases c : i = n
    · by_cases d : k = n
      · omega
      · rw [c, el, ei k (by omega)] at z
        exact absurd z.symm (hne k (by omega))
    · by_cases d : k = n
      · rw [d, el, ei i (by omega)] at z
        exact absurd z (hne i (by omega))
      · rw [ei i (by omega), ei k (by omega)] at z
        exact h3 i k (by omega) (by omega) z
theorem lst_fresh {σ : XS} {j K n q : Nat} (h : Lst σ j K n) (hq : xk σ q = 0) (hK : K ≠ 0) (i : Nat) (hi : i < n) : xe σ j i ≠ q := fun e => hK (by rw [← h.2.1 i hi, e]; exact hq)

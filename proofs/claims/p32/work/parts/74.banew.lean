/-! ===== fireballAnew ===== -/
def SF (σ τ : XS) : Prop := τ.1 = σ.1 ∧ (∀ c, c ≠ 151 → τ.2.1 c = σ.2.1 c) ∧ τ.2.2 = σ.2.2
theorem sf_refl (σ : XS) : SF σ σ := ⟨rfl, fun _ _ => rfl, rfl⟩
theorem sf_set {σ τ : XS} {q : Nat} {v : Int32} (h : SF σ τ) : SF σ (xI τ 151 q v) := ⟨h.1, fun c hc => by rw [xI_ne hc]; exact h.2.1 c hc, h.2.2⟩
theorem sf_n {σ τ : XS} (h : SF σ τ) (j : Nat) : xn τ j = xn σ j := congrArg (fun z => z.2.2.1 j) h.2.2
theorem sf_e {σ τ : XS} (h : SF σ τ) (j k : Nat) : xe τ j k = xe σ j k := congrArg (fun z => z.2.2.2 j k) h.2.2
theorem sf_j {σ τ : XS} (h : SF σ τ) (c q : Nat) : xj τ c q = xj σ c q := congrArg (fun z => z.1 c q) h.2.2
theorem sf_k {σ τ : XS} (h : SF σ τ) (q : Nat) : xk τ q = xk σ q := congrArg (fun z => z q) h.1
theorem sf_eq {σ τ : XS} (h : SF σ τ) : τ = (σ.1, fun a => if a = 151 then τ.2.1 a else σ.2.1 a, σ.2.2) := by
  refine Prod.ext h.1 (Prod.ext ?_ h.2.2)
  funext a
  show τ.2.1 a = if _ then _ else _
  split
  · rfl
  · rename_i c; exact h.2.1 a c
def WL (σ τ : XS) (n : Nat) (L : Nat → Nat) : Prop := SF σ τ ∧ ∀ k, k < n → xi τ 151 (xe σ 2 k) = nI (L k)
def IvL (J : Nat → Nat → Bool) (n : Nat) (L : Nat → Nat) : Prop := ∀ k, k < n → cn J k (L k) ∧ L k ≤ k
theorem sp_in {σ τ : XS} {x n : Nat} {s : Nat → Nat → Int32} {L0 : Nat → Nat} {i : Nat} {ch0 v2 : Int32} (h : SX σ x n s) (hM : MK σ n (JJ s n)) (hW : WL σ τ n L0) (hI : IvL (JJ s n) n L0) (hz : zb ch0) (hi : i < n) : ito (s_X10_spreadLowest_34 x v2 (xe σ 2 i)) (os_X10_spreadLowest_34 x v2 (xe σ 2 i)) FU (ch0, 0, τ) ∧ ∃ ch τ' L, itr (s_X10_spreadLowest_34 x v2 (xe σ 2 i)) FU (ch0, 0, τ) = (ch, nI n, τ') ∧ WL σ τ' n L ∧ IvL (JJ s n) n L ∧ zb ch ∧ (∀ k, k ≠ i → L k = L0 k) ∧ L i ≤ L0 i ∧ (∀ m, JJ s n i m = true → L i ≤ L m) ∧ (ch = 0 → ch0 = 0 ∧ L i = L0 i) := by
  obtain ⟨hn, hx, -, -, hk, hu, -⟩ := h
  have hG := gr_JJ s n
  have main := itr_for (f := s_X10_spreadLowest_34 x v2 (xe σ 2 i)) (o := os_X10_spreadLowest_34 x v2 (xe σ 2 i)) (fun m (b : Int32 × XS) => (b.1, nI m, b.2)) (fun m b => ∃ L, WL σ b.2 n L ∧ IvL (JJ s n) n L ∧ zb b.1 ∧ (∀ k, k ≠ i → L k = L0 k) ∧ L i ≤ L0 i ∧ (∀ m', m' < m → JJ s n i m' = true → L i ≤ L m') ∧ (b.1 = 0 → ch0 = 0 ∧ L i = L0 i)) (n := n) (by
    rintro m ⟨ch, ρ⟩ hm ⟨L, w1, w2, w3, w4, w5, w6, w7⟩
    have w1 : WL σ ρ n L := w1
    have w3 : zb ch := w3
    have w7 : ch = 0 → ch0 = 0 ∧ L i = L0 i := w7
    have hix : ix (nI m) = m := clamp_nI (by omega)
    have c1 : ¬ nI n ≤ nI m := by rw [nI_leI (by omega) (by omega)]; omega
    have vm : vp_in (nI m) n := nI_in hm (by omega)
    have km := (hk m hm).1
    have ki := (hk i hi).1
    have li := (w2 i hi).2
    have lm := (w2 m hm).2
    show ob_X10_spreadLowest_34 x v2 (xe σ 2 i) ch (nI m) ρ ∧ ∃ b' : Int32 × XS, b_X10_spreadLowest_34 x v2 (xe σ 2 i) ch (nI m) ρ = (true, (b'.1, nI (m + 1), b'.2)) ∧ ∃ L, WL σ b'.2 n L ∧ IvL (JJ s n) n L ∧ zb b'.1 ∧ (∀ k, k ≠ i → L k = L0 k) ∧ L i ≤ L0 i ∧ (∀ m', m' < m + 1 → JJ s n i m' = true → L i ≤ L m') ∧ (b'.1 = 0 → ch0 = 0 ∧ L i = L0 i)
    unfold ob_X10_spreadLowest_34 b_X10_spreadLowest_34 f_X10_spreadLowest_l34_99
    rw [sf_n w1.1, hx, hix, sf_e w1.1, sf_k w1.1, sf_k w1.1, if_neg c1, sf_j w1.1, holds_i _ (by omega), hM i hi m (by omega), w1.2 i hi, w1.2 m hm, nI_1]
    refine ⟨⟨fun _ => trivial, fun _ => ⟨vm, km, ki, trivial⟩⟩, ?_⟩
    by_cases d : JJ s n i m = true
    · rw [if_pos d, if_neg i_1ne0]
      by_cases e : nI (L i) ≤ nI (L m)
      · rw [if_pos e]
        rw [nI_leI (by omega) (by omega)] at e
        refine ⟨(ch, ρ), rfl, L, w1, w2, w3, w4, w5, fun m' hm' hj => ?_, w7⟩
        by_cases g : m' = m
        · rw [g]; exact e
        · exact w6 m' (by omega) hj
      · rw [if_neg e]
        rw [nI_leI (by omega) (by omega)] at e
        have hmi : m ≠ i := fun g => e (by rw [g]; exact Nat.le_refl _)
        refine ⟨(1, xI ρ 151 (xe σ 2 i) (nI (L m))), rfl, fun k => if k = i then L m else L k, ⟨sf_set w1.1, fun k hk2 => ?_⟩, fun k hk2 => ?_, Or.inr rfl, fun k hk2 => ?_, ?_, fun m' hm' hj => ?_, fun z => absurd z i_1ne0⟩
        · show xi (xI ρ 151 (xe σ 2 i) (nI (L m))) 151 (xe σ 2 k) = nI (if k = i then L m else L k)
          rw [xi_at]
          by_cases g : k = i
          · rw [if_pos (by rw [g]), if_pos g]
          · rw [if_neg (fun z => g (hu k i hk2 hi z)), if_neg g]; exact w1.2 k hk2
        · show cn (JJ s n) k (if k = i then L m else L k) ∧ (if k = i then L m else L k) ≤ k
          by_cases g : k = i
          · rw [if_pos g, g]
            exact ⟨cn_tr (cn_one d) (w2 m hm).1, by omega⟩
          · rw [if_neg g]; exact w2 k hk2
        · show (if k = i then L m else L k) = L0 k
          rw [if_neg hk2]; exact w4 k hk2
        · show (if i = i then L m else L i) ≤ L0 i
          rw [if_pos rfl]; omega
        · show (if i = i then L m else L i) ≤ (if m' = i then L m else L m')
          rw [if_pos rfl]
          by_cases g : m' = i
          · rw [if_pos g]; exact Nat.le_refl _
          · rw [if_neg g]
            by_cases g2 : m' = m
            · rw [g2]; exact Nat.le_refl _
            · have := w6 m' (by omega) hj; omega
    · rw [if_neg d, if_pos rfl]
      refine ⟨(ch, ρ), rfl, L, w1, w2, w3, w4, w5, fun m' hm' hj => ?_, w7⟩
      by_cases g : m' = m
      · rw [g] at hj; exact absurd hj d
      · exact w6 m' (by omega) hj) (by
    rintro ⟨ch, ρ⟩ ⟨L, w1, -⟩
    have w1 : WL σ ρ n L := w1
    show ob_X10_spreadLowest_34 x v2 (xe σ 2 i) ch (nI n) ρ ∧ b_X10_spreadLowest_34 x v2 (xe σ 2 i) ch (nI n) ρ = _
    unfold ob_X10_spreadLowest_34 b_X10_spreadLowest_34
    rw [sf_n w1.1, hx, if_pos (Int32.le_refl _)]
    exact ⟨⟨fun _ => trivial, fun z => absurd (Int32.le_refl _) z⟩, rfl⟩) FU 0 (ch0, τ) (Nat.zero_le _) (by show n - 0 < 100000; omega) ⟨L0, hW, hI, hz, fun _ _ => rfl, Nat.le_refl _, fun m' hm' => absurd hm' (Nat.not_lt_zero _), fun z => ⟨z, rfl⟩⟩
  obtain ⟨m1, ⟨ch, τ'⟩, m2, L, w1, w2, w3, w4, w5, w6, w7⟩ := main
  exact ⟨m1, ch, τ', L, m2, w1, w2, w3, w4, w5, fun m hj => w6 m (hG.2 i m hj).2 hj, w7⟩
theorem sp_round {σ τ : XS} {x n : Nat} {s : Nat → Nat → Int32} {L0 : Nat → Nat} (h : SX σ x n s) (hM : MK σ n (JJ s n)) (hW : WL σ τ n L0) (hI : IvL (JJ s n) n L0) : of_X10_spreadLowest τ x ∧ ∃ ch τ' L, f_X10_spreadLowest τ x = (ch, τ') ∧ WL σ τ' n L ∧ IvL (JJ s n) n L ∧ (∀ k, L k ≤ L0 k) ∧ (∀ k m, JJ s n k m = true → L k ≤ L0 m) ∧ (ch = 0 → ∀ k, L k = L0 k) := by
  have h' := h
  obtain ⟨hn, hx, -, -, hk, hu, -⟩ := h'
  have hG := gr_JJ s n
  have main := itr_for (f := s_X10_spreadLowest_4 x) (o := os_X10_spreadLowest_4 x) (fun i (b : Int32 × XS) => (b.1, nI i, b.2)) (fun i b => ∃ L, WL σ b.2 n L ∧ IvL (JJ s n) n L ∧ zb b.1 ∧ (∀ k, L k ≤ L0 k) ∧ (∀ k m, k < i → JJ s n k m = true → L k ≤ L0 m) ∧ (b.1 = 0 → ∀ k, L k = L0 k)) (n := n) (by
    rintro i ⟨ch, ρ⟩ hi ⟨L, w1, w2, w3, w4, w5, w6⟩
    have w1 : WL σ ρ n L := w1
    have w3 : zb ch := w3
    have w6 : ch = 0 → ∀ k, L k = L0 k := w6
    have hix : ix (nI i) = i := clamp_nI (by omega)
    have c1 : ¬ nI n ≤ nI i := by rw [nI_leI (by omega) (by omega)]; omega
    obtain ⟨o1, ch', ρ', L', q1, q2, q3, q4, q5, q6, q7, q8⟩ := sp_in (v2 := nI i) h hM w1 w2 w3 hi
    show ob_X10_spreadLowest_4 x ch (nI i) ρ ∧ ∃ b' : Int32 × XS, b_X10_spreadLowest_4 x ch (nI i) ρ = (true, (b'.1, nI (i + 1), b'.2)) ∧ ∃ L, WL σ b'.2 n L ∧ IvL (JJ s n) n L ∧ zb b'.1 ∧ (∀ k, L k ≤ L0 k) ∧ (∀ k m, k < i + 1 → JJ s n k m = true → L k ≤ L0 m) ∧ (b'.1 = 0 → ∀ k, L k = L0 k)
    unfold ob_X10_spreadLowest_4 b_X10_spreadLowest_4 of_X10_spreadLowest_l4_34 f_X10_spreadLowest_l4_34 f_X10_spreadLowest_l4_105
    rw [sf_n w1.1, hx, hix, sf_e w1.1, sf_k w1.1, if_neg c1, q1, nI_1]
    refine ⟨⟨fun _ => trivial, fun _ => ⟨nI_in hi (by omega), (hk i hi).1, o1, trivial⟩⟩, (ch', ρ'), rfl, L', q2, q3, q4, fun k => ?_, fun k m hk2 hj => ?_, fun z k => ?_⟩
    · by_cases g : k = i
      · rw [g]; exact Nat.le_trans q6 (w4 i)
      · rw [q5 k g]; exact w4 k
    · by_cases g : k = i
      · rw [g] at hj ⊢
        have a := q7 m hj
        by_cases g2 : m = i
        · rw [g2]; exact Nat.le_trans q6 (w4 i)
        · rw [q5 m g2] at a; exact Nat.le_trans a (w4 m)
      · rw [q5 k g]; exact w5 k m (by omega) hj
    · obtain ⟨z1, z2⟩ := q8 z
      by_cases g : k = i
      · rw [g, z2]; exact w6 z1 i
      · rw [q5 k g]; exact w6 z1 k) (by
    rintro ⟨ch, ρ⟩ ⟨L, w1, -⟩
    have w1 : WL σ ρ n L := w1
    show ob_X10_spreadLowest_4 x ch (nI n) ρ ∧ b_X10_spreadLowest_4 x ch (nI n) ρ = _
    unfold ob_X10_spreadLowest_4 b_X10_spreadLowest_4
    rw [sf_n w1.1, hx, if_pos (Int32.le_refl _)]
    exact ⟨⟨fun _ => trivial, fun z => absurd (Int32.le_refl _) z⟩, rfl⟩) FU 0 (0, τ) (Nat.zero_le _) (by show n - 0 < 100000; omega) ⟨L0, hW, hI, Or.inl rfl, fun _ => Nat.le_refl _, fun k m hk2 => absurd hk2 (Nat.not_lt_zero _), fun _ _ => rfl⟩
  obtain ⟨m1, ⟨ch, τ'⟩, m2, L, w1, w2, w3, w4, w5, w6⟩ := main
  have m2 : itr (s_X10_spreadLowest_4 x) FU (0, 0, τ) = (ch, nI n, τ') := m2
  refine ⟨⟨m1, ?_⟩, ch, τ', L, ?_, w1, w2, w4, fun k m hj => w5 k m (hG.2 k m hj).1 hj, w6⟩
  · have m2' : itr (s_X10_spreadLowest_4 x) FU (0, 0, τ) = (ch, nI n, τ') := m2
    show of_X10_spreadLowest_111 τ x ((itr (s_X10_spreadLowest_4 x) FU (0, 0, τ)).1) ((itr (s_X10_spreadLowest_4 x) FU (0, 0, τ)).2.2)
    rw [m2']
    exact ⟨w3, trivial⟩
  · unfold f_X10_spreadLowest f_X10_spreadLowest_4 f_X10_spreadLowest_111
    rw [m2]
/-- every sighting has its lowest -/
def AllL (J : Nat → Nat → Bool) (n : Nat) (L : Nat → Nat) : Prop := ∀ k, k < n → L k = low J k
theorem all_fix {J : Nat → Nat → Bool} {n : Nat} {L : Nat → Nat} (hG : Gr J n) (hI : IvL J n L) (h : ∀ k m, J k m = true → L k ≤ L m) : AllL J n L := fun k hk => low_fix (fun k hk => (hI k hk).1) (fun k hk => (hI k hk).2) (fun k m hj => by
  have a := h k m hj
  have b := h m k (by rw [← hG.1]; exact hj)
  omega) k hk
noncomputable def fin (J : Nat → Nat → Bool) (L : Nat → Nat) (k : Nat) : Bool := decide (L k = low J k)
theorem all_grow {J : Nat → Nat → Bool} {n : Nat} {L L0 : Nat → Nat} (hG : Gr J n) (h0 : IvL J n L0) (hI : IvL J n L) (h1 : ∀ k, L k ≤ L0 k) (h2 : ∀ k m, J k m = true → L k ≤ L0 m) : (AllL J n L0 → AllL J n L) ∧ (AllL J n L ∨ cdn (fin J L0) n < cdn (fin J L) n) := by
  have mono : ∀ k, k < n → L0 k = low J k → L k = low J k := fun k hk e => by
    have a := h1 k
    have b := (low_spec J k).2 _ (hI k hk).1
    omega
  refine ⟨fun z k hk => mono k hk (z k hk), ?_⟩
  by_cases c : AllL J n L
  · exact Or.inl c
  · refine Or.inr ?_
    have : ∃ k, k < n ∧ ¬ L k = low J k := Classical.byContradiction (fun z => c (fun k hk => Classical.byContradiction (fun y => z ⟨k, hk, y⟩)))
    obtain ⟨k, hk, hne⟩ := this
    have hlk := low_le J k
    have fl : L0 (low J k) = low J (low J k) := by
      have a := (h0 (low J k) (by omega)).2
      have b := (low_spec J (low J k)).2 _ (h0 (low J k) (by omega)).1
      rw [low_low hG k] at b ⊢
      omega
    obtain ⟨a, b, hj, na, fb⟩ := cn_edge (F := fun z => L0 z = low J z) (low_spec J k).1 (fun z => hne (mono k hk z)) fl
    have na : ¬ L0 a = low J a := na
    have fb : L0 b = low J b := fb
    have ha := (hG.2 a b hj).1
    have r : L a = low J a := by
      have q := h2 a b hj
      have e := low_one hG hj
      have p := (low_spec J a).2 _ (hI a ha).1
      omega
    exact cdn_lt (j := a) (fun z => na (of_decide_eq_true z)) (decide_eq_true r) n (fun i hi z => decide_eq_true (mono i hi (of_decide_eq_true z))) ha
theorem cdn_full {G : Nat → Bool} : ∀ n, n ≤ cdn G n → ∀ k, k < n → G k = true
  | 0, _, k, hk => absurd hk (Nat.not_lt_zero _)
  | n + 1, h, k, hk => by
    rw [cdn_s] at h
    have hle := cdn_le (G := G) n
    by_cases c : G n = true
    · rw [if_pos c] at h
      by_cases e : k = n
      · rw [e]; exact c
      · exact cdn_full n (by omega) k (by omega)
    · rw [if_neg c] at h
      omega
theorem anew_0 {σ : XS} {x n : Nat} {s : Nat → Nat → Int32} (h : SX σ x n s) (v2 : Nat) : ito (s_X10_fireballAnew_19 x v2) (os_X10_fireballAnew_19 x v2) FU (0, σ) ∧ ∃ τ, itr (s_X10_fireballAnew_19 x v2) FU (0, σ) = (nI n, τ) ∧ WL σ τ n (fun k => k) := by
  obtain ⟨hn, hx, -, -, hk, hu, -⟩ := h
  have main := itr_for (f := s_X10_fireballAnew_19 x v2) (o := os_X10_fireballAnew_19 x v2) (fun i (b : XS) => (nI i, b)) (fun i b => SF σ b ∧ ∀ k, k < i → xi b 151 (xe σ 2 k) = nI k) (n := n) (by
    rintro i ρ hi ⟨w1, w2⟩
    have hix : ix (nI i) = i := clamp_nI (by omega)
    have c1 : ¬ nI n ≤ nI i := by rw [nI_leI (by omega) (by omega)]; omega
    show ob_X10_fireballAnew_19 x v2 (nI i) ρ ∧ ∃ b', b_X10_fireballAnew_19 x v2 (nI i) ρ = (true, (nI (i + 1), b')) ∧ _
    unfold ob_X10_fireballAnew_19 b_X10_fireballAnew_19
    rw [sf_n w1, hx, hix, sf_e w1, sf_k w1, if_neg c1, nI_1]
    refine ⟨⟨fun _ => trivial, fun _ => ⟨nI_in hi (by omega), (hk i hi).1, trivial⟩⟩, _, rfl, sf_set w1, fun k hk2 => ?_⟩
    rw [xi_at]
    by_cases g : k = i
    · rw [if_pos (by rw [g]), g]
    · rw [if_neg (fun z => g (hu k i (by omega) hi z))]
      exact w2 k (by omega)) (by
    rintro ρ ⟨w1, -⟩
    show ob_X10_fireballAnew_19 x v2 (nI n) ρ ∧ b_X10_fireballAnew_19 x v2 (nI n) ρ = _
    unfold ob_X10_fireballAnew_19 b_X10_fireballAnew_19
    rw [sf_n w1, hx, if_pos (Int32.le_refl _)]
    exact ⟨⟨fun _ => trivial, fun z => absurd (Int32.le_refl _) z⟩, rfl⟩) FU 0 σ (Nat.zero_le _) (by show n - 0 < 100000; omega) ⟨sf_refl σ, fun k hk2 => absurd hk2 (Nat.not_lt_zero _)⟩
  obtain ⟨m1, τ, m2, m3⟩ := main
  exact ⟨m1, τ, m2, m3⟩
theorem anew_1 {σ τ : XS} {x n : Nat} {s : Nat → Nat → Int32} (h : SX σ x n s) (hM : MK σ n (JJ s n)) (v2 : Nat) (hW : WL σ τ n (fun k => k)) : ito (s_X10_fireballAnew_60 x v2) (os_X10_fireballAnew_60 x v2) FU (1, 0, τ) ∧ ∃ τ' L, (itr (s_X10_fireballAnew_60 x v2) FU (1, 0, τ)).2.2 = τ' ∧ WL σ τ' n L ∧ AllL (JJ s n) n L := by
  have h' := h
  obtain ⟨hn, hx, -, -, hk, hu, -⟩ := h'
  have hG := gr_JJ s n
  have main := itr_inv (f := s_X10_fireballAnew_60 x v2) (o := os_X10_fireballAnew_60 x v2) (fun v => ∃ r L, r ≤ n ∧ v.2.1 = nI r ∧ WL σ v.2.2 n L ∧ IvL (JJ s n) n L ∧ (AllL (JJ s n) n L ∨ r ≤ cdn (fin (JJ s n) L) n) ∧ (v.1 = 0 → AllL (JJ s n) n L)) (fun v => n - ix v.2.1) (by
    rintro ⟨ch, w, ρ⟩ ⟨r, L, hr, hw, w1, w2, w3, w4⟩
    have hw : w = nI r := hw
    have w1 : WL σ ρ n L := w1
    have w4 : ch = 0 → AllL (JJ s n) n L := w4
    have hix : ix (nI r) = r := clamp_nI (by omega)
    obtain ⟨o1, ch', ρ', L', q1, q2, q3, q4, q5, q6⟩ := sp_round h hM w1 w2
    show ob_X10_fireballAnew_60 x v2 ch w ρ ∧ ((b_X10_fireballAnew_60 x v2 ch w ρ).1 = true → _)
    refine ⟨⟨fun _ => trivial, fun _ => ⟨fun _ => trivial, fun _ => ⟨o1, trivial⟩⟩⟩, ?_⟩
    show (b_X10_fireballAnew_60 x v2 ch w ρ).1 = true → (∃ r L, r ≤ n ∧ (b_X10_fireballAnew_60 x v2 ch w ρ).2.2.1 = nI r ∧ WL σ (b_X10_fireballAnew_60 x v2 ch w ρ).2.2.2 n L ∧ IvL (JJ s n) n L ∧ (AllL (JJ s n) n L ∨ r ≤ cdn (fin (JJ s n) L) n) ∧ ((b_X10_fireballAnew_60 x v2 ch w ρ).2.1 = 0 → AllL (JJ s n) n L)) ∧ n - ix (b_X10_fireballAnew_60 x v2 ch w ρ).2.2.1 < n - ix w
    unfold b_X10_fireballAnew_60 f_X10_fireballAnew_l60_82
    rw [sf_n w1.1, hx, hw]
    by_cases c0 : ch = 0
    · rw [if_pos c0]; exact fun z => absurd z Bool.false_ne_true
    · rw [if_neg c0]
      by_cases c1 : nI n ≤ nI r
      · rw [if_pos c1]; exact fun z => absurd z Bool.false_ne_true
      · rw [if_neg c1, q1]
        rw [nI_leI (by omega) (by omega)] at c1
        intro _
        have hix2 : ix (nI (r + 1)) = r + 1 := clamp_nI (by omega)
        obtain ⟨g1, g2⟩ := all_grow hG w2 q3 q4 q5
        refine ⟨⟨r + 1, L', by omega, nI_1 r, q2, q3, ?_, fun z => ?_⟩, ?_⟩
        · rcases w3 with w3 | w3
          · exact Or.inl (g1 w3)
          · rcases g2 with g2 | g2
            · exact Or.inl g2
            · exact Or.inr (by omega)
        · have e := q6 z
          refine all_fix hG q3 (fun k m hj => ?_)
          have := q5 k m hj
          rw [← e m] at this
          exact this
        · show n - ix (nI r + 1) < n - ix (nI r)
          rw [nI_1, hix2, hix]
          omega) FU (1, 0, τ) ⟨0, fun k => k, Nat.zero_le _, rfl, hW, fun k _ => ⟨cn_refl k, Nat.le_refl k⟩, Or.inr (Nat.zero_le _), fun z => absurd z i_1ne0⟩ (by show n - ix 0 < 100000; omega)
  obtain ⟨m1, ⟨ch, w, ρ⟩, ⟨r, L, hr, hw, w1, w2, w3, w4⟩, m3, m4⟩ := main
  have hw : w = nI r := hw
  have w1 : WL σ ρ n L := w1
  have w4 : ch = 0 → AllL (JJ s n) n L := w4
  rw [m4]
  have m3 : (b_X10_fireballAnew_60 x v2 ch w ρ).1 = false := m3
  refine ⟨m1, ρ, L, ?_, w1, ?_⟩
  · show (b_X10_fireballAnew_60 x v2 ch w ρ).2.2.2 = ρ
    unfold b_X10_fireballAnew_60 f_X10_fireballAnew_l60_82 at m3 ⊢
    by_cases c0 : ch = 0
    · rw [if_pos c0]
    · rw [if_neg c0] at m3 ⊢
      by_cases c1 : nI (xn ρ 2) ≤ w
      · rw [if_pos c1]
      · rw [if_neg c1] at m3
        exact absurd m3 (fun z => Bool.false_ne_true z.symm)
  · unfold b_X10_fireballAnew_60 f_X10_fireballAnew_l60_82 at m3
    by_cases c0 : ch = 0
    · exact w4 c0
    · rw [if_neg c0, sf_n w1.1, hx, hw] at m3
      by_cases c1 : nI n ≤ nI r
      · rw [nI_leI (by omega) (by omega)] at c1
        rcases w3 with w3 | w3
        · exact w3
        · exact fun k hk2 => of_decide_eq_true (cdn_full (G := fin (JJ s n) L) n (by omega) k hk2)
      · rw [if_neg c1] at m3
        exact absurd m3 (fun z => Bool.false_ne_true z.symm)
theorem sf_rep {σ τ : XS} {x : Nat} {μ : MS} (g : SF σ τ) (h : Rep σ x μ) : Rep τ x μ := by
  rw [sf_eq g]
  exact h
theorem br_fireballAnew : Br_fireballAnew Rep := by
  intro σ x μ p0 hh
  obtain ⟨n0, n1, n2, n4, n5, n6, h, hG⟩ := id hh
  have hsi := h.2.2.2.2.1
  have h60 := hsi.1
  have d1 : cd_fireballAnew 3 = 1 := by decide
  obtain ⟨e1, e3⟩ := sg_ex (x := x) p0 hsi
  rcases e3 with ⟨j, hj, rfl, hix, v, hF, hM, hK⟩ | ⟨hF, hM⟩
  · obtain ⟨oM, μ', hfr, ht, m1, m2⟩ := fof_i h hj hM
    have hS := (rep_sx h).1
    have hm := mask0 h60 hG.1 hj
    by_cases c : jd (JJ (sdt μ n2) n2) j
    · have c0 : ¬ lg_cmp (xj σ 149 (xe σ 2 j)) 0 = 0 := fun z => hm.mp z c
      obtain ⟨o1, τ, q1, q2⟩ := anew_0 hS (xe σ 2 j)
      obtain ⟨o2, τ', L, r1, r2, r3⟩ := anew_1 hS hG.1 (xe σ 2 j) q2
      have hFo : ∀ nq, FL_fireballAnew σ x (nI j) nq = .ok (nI (low (JJ (sdt μ n2) n2) j), τ') := by
        intro nq
        show f_X10_fireballAnew σ x (nI j) = _
        unfold f_X10_fireballAnew
        rw [hF, exb_i, if_neg c0]
        unfold f_X10_fireballAnew_19
        rw [q1]
        unfold f_X10_fireballAnew_55 f_X10_fireballAnew_60 f_X10_fireballAnew_89
        show Except.ok (xi (itr (s_X10_fireballAnew_60 x (xe σ 2 j)) FU (1, 0, τ)).2.2 151 (xe σ 2 j), (itr (s_X10_fireballAnew_60 x (xe σ 2 j)) FU (1, 0, τ)).2.2) = _
        rw [r1, r2.2 j hj, r3 j hj]
      have hMo : f_X11_fireballAnew μ (nI j) = (nI (low (JJ (sdt μ n2) n2) j), μ') := by
        unfold f_X11_fireballAnew
        rw [m1 c]
      refine ⟨?_, no_er hFo, ⟨oM, trivial⟩, fun nq f _ _ => cl_oI (hFo nq) hMo ht (sf_rep r2.1 (rep_fr hh hfr)) f⟩
      unfold of_X10_fireballAnew
      rw [hF, exo_i]
      refine ⟨e1, hK, fun z => absurd z c0, fun _ => ⟨o1, ?_⟩⟩
      rw [q1]
      refine ⟨o2, ?_⟩
      show of_X10_fireballAnew_89 σ x (nI j) (xe σ 2 j) ((itr (s_X10_fireballAnew_60 x (xe σ 2 j)) FU (1, 0, τ)).2.2)
      rw [r1]
      exact ⟨by rw [sf_k r2.1]; exact hK, trivial⟩
    · have c0 : lg_cmp (xj σ 149 (xe σ 2 j)) 0 = 0 := hm.mpr c
      have hFo : ∀ nq, FL_fireballAnew σ x (nI j) nq = .ok (-1, σ) := by
        intro nq
        show f_X10_fireballAnew σ x (nI j) = _
        unfold f_X10_fireballAnew
        rw [hF, exb_i, if_pos c0]
      have hMo : f_X11_fireballAnew μ (nI j) = (-1, μ') := by
        unfold f_X11_fireballAnew
        rw [m2 c]
      refine ⟨?_, no_er hFo, ⟨oM, trivial⟩, fun nq f _ _ => cl_oI (hFo nq) hMo ht (rep_fr hh hfr) f⟩
      unfold of_X10_fireballAnew
      rw [hF, exo_i]
      exact ⟨e1, hK, fun _ => trivial, fun z => absurd c0 z⟩
  · obtain ⟨oM, eM⟩ := fof_e hM
    have hFe : ∀ nq, FL_fireballAnew σ x p0 nq = .error 3 := fun nq => by
      show f_X10_fireballAnew σ x p0 = _
      unfold f_X10_fireballAnew
      rw [hF, exb_e]
    have hMe : f_X11_fireballAnew μ p0 = (0, mI μ 0 0 1) := by
      unfold f_X11_fireballAnew
      rw [eM]
    refine ⟨?_, is_er hFe rfl, ⟨oM, trivial⟩, fun nq f _ _ => cl_eI hFe hMe (fr_refl μ) d1 (by decide) hh nq f⟩
    unfold of_X10_fireballAnew
    rw [hF, exo_e]
    exact ⟨e1, trivial⟩

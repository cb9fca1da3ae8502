/-! ===== loops that count ===== -/
theorem itr_for {α β : Type} {f : α → Bool × α} {o : α → Prop} (pk : Nat → β → α) (P : Nat → β → Prop) {n : Nat} (hstep : ∀ k b, k < n → P k b → o (pk k b) ∧ ∃ b', f (pk k b) = (true, pk (k + 1) b') ∧ P (k + 1) b') (hend : ∀ b, P n b → o (pk n b) ∧ f (pk n b) = (false, pk n b)) : ∀ m k b, k ≤ n → n - k < m → P k b → ito f o m (pk k b) ∧ ∃ b', itr f m (pk k b) = pk n b' ∧ P n b' := by
  intro m
  induction m with
  | zero => intro k b _ h2 _; exact absurd h2 (Nat.not_lt_zero _)
  | succ m ih =>
    intro k b hk hm hP
    rcases Nat.lt_or_ge k n with hl | hl
    · obtain ⟨h1, b', h2, h3⟩ := hstep k b hl hP
      obtain ⟨i1, b2, i2, i3⟩ := ih (k + 1) b' hl (by omega) h3
      refine ⟨⟨h1, fun _ => by rw [h2]; exact i1⟩, b2, ?_, i3⟩
      show (if (f (pk k b)).1 = true then itr f m (f (pk k b)).2 else (f (pk k b)).2) = _
      rw [h2]; exact i2
    · have e : k = n := by omega
      subst e
      obtain ⟨h1, h2⟩ := hend b hP
      refine ⟨⟨h1, fun h9 => by rw [h2] at h9; exact absurd h9 Bool.false_ne_true⟩, b, ?_, hP⟩
      show (if (f (pk k b)).1 = true then itr f m (f (pk k b)).2 else (f (pk k b)).2) = _
      rw [h2]; rfl
/-! ===== the reference's least numbers ===== -/
def Fr (μ μ' : MS) : Prop := ∀ a, a ≠ 0 → a ≠ 23 → a ≠ 24 → a ≠ 32 → a ≠ 34 → μ'.1 a = μ.1 a
theorem fr_eq {μ μ' : MS} (h : Fr μ μ') : μ' = (fun a => if a = 0 ∨ a = 23 ∨ a = 24 ∨ a = 32 ∨ a = 34 then μ'.1 a else μ.1 a, μ'.2) := by
  refine Prod.ext ?_ rfl
  funext a
  show μ'.1 a = if _ then _ else _
  split
  · rfl
  · exact h a (fun e => by simp_all) (fun e => by simp_all) (fun e => by simp_all) (fun e => by simp_all) (fun e => by simp_all)
theorem fr_refl (μ : MS) : Fr μ μ := fun _ _ _ _ _ _ => rfl
theorem fr_tr {a b c : MS} (h : Fr a b) (g : Fr b c) : Fr a c := fun k h1 h2 h3 h4 h5 => (g k h1 h2 h3 h4 h5).trans (h k h1 h2 h3 h4 h5)
theorem fr_pl {a b : MS} (h : PL a b) : Fr a b := fun k _ _ _ _ _ => by rw [h.1]
theorem mx_f {μ μ' : MS} {n : Nat} {s : Nat → Nat → Int32} (h : MX μ n s) (g : Fr μ μ') : MX μ' n s := by
  rw [fr_eq g]
  exact h
def LW (μ0 μ : MS) (n : Nat) (L : Nat → Nat) (A : Nat → Bool) : Prop := (∀ a, a ≠ 23 → a ≠ 24 → μ.1 a = μ0.1 a) ∧ (∀ a, a ≠ 25 → a ≠ 26 → μ.2 a = μ0.2 a) ∧ ∀ k, k < n → mi μ 23 k = nI (L k) ∧ mi μ 24 k = if A k = true then 1 else 0
theorem ls_fr {μ0 μ : MS} {n : Nat} {L : Nat → Nat} {A : Nat → Bool} (h : LW μ0 μ n L A) : Fr μ0 μ := fun a _ h2 h3 _ _ => h.1 a h2 h3
theorem ls_pl {μ0 μ μ' : MS} {n : Nat} {L : Nat → Nat} {A : Nat → Bool} (h : LW μ0 μ n L A) (g : PL μ μ') : LW μ0 μ' n L A := by
  refine ⟨fun a h1 h2 => by rw [g.1]; exact h.1 a h1 h2, fun a h1 h2 => (g.2 a h1 h2).trans (h.2.1 a h1 h2), fun k hk => ?_⟩
  have : ∀ c i, mi μ' c i = mi μ c i := fun c i => by show μ'.1 c i = μ.1 c i; rw [g.1]
  rw [this, this]
  exact h.2.2 k hk
theorem mI_ne {μ : MS} {k i a : Nat} {v : Int32} (h : a ≠ k) : (mI μ k i v).1 a = μ.1 a := by
  funext j
  show up2 μ.1 k i v a j = _
  rw [up2_at, if_neg h]
theorem mi_ne {μ : MS} {k i a j : Nat} {v : Int32} (h : a ≠ k) : mi (mI μ k i v) a j = mi μ a j := by
  unfold mi; rw [mI_ne h]
theorem spr1 {μ : MS} {n : Nat} (hn : n ≤ 60) (hc : mi μ 13 0 = nI n) : ito s_X11_spreads_2 os_X11_spreads_2 FU (0, μ) ∧ ∃ μ', itr s_X11_spreads_2 FU (0, μ) = (nI n, μ') ∧ LW μ μ' n (fun k => k) (fun _ => false) := by
  have h := itr_for (f := s_X11_spreads_2) (o := os_X11_spreads_2) (fun k (b : MS) => (nI k, b)) (fun k b => (∀ a, a ≠ 23 → a ≠ 24 → b.1 a = μ.1 a) ∧ b.2 = μ.2 ∧ ∀ j, j < k → mi b 23 j = nI j ∧ mi b 24 j = 0) (n := n) ?_ ?_ FU 0 μ (by omega) (by unfold FU; omega) ⟨fun _ _ _ => rfl, rfl, fun j hj => absurd hj (Nat.not_lt_zero _)⟩
  · obtain ⟨h1, b', h2, h3, h4, h5⟩ := h
    refine ⟨h1, b', h2, h3, fun a _ _ => by rw [h4], fun k hk => ?_⟩
    exact h5 k hk
  · intro k b hk hP
    obtain ⟨g1, g2, g3⟩ := hP
    have c13 : mi b 13 0 = nI n := by unfold mi; rw [g1 13 (by decide) (by decide)]; exact hc
    have e1 : ix (nI k) = k := clamp_nI (by omega)
    have v1 : vp_in (nI k) 60 := nI_in (by omega) (by decide)
    have c1 : ¬ nI n ≤ nI k := by rw [nI_leI (by omega) (by omega)]; omega
    refine ⟨⟨fun _ => trivial, fun _ => ⟨v1, v1, trivial⟩⟩, mI (mI b 23 k (nI k)) 24 k (bz 0), ?_, ?_⟩
    · show (if (mi b 13 0) ≤ nI k then (false, (nI k, b)) else (true, ((nI k + 1), (mI (mI b 23 (ix (nI k)) (nI k)) 24 (ix (nI k)) (bz 0))))) = _
      rw [c13, if_neg c1, e1, nI_succ]
    · refine ⟨fun a h1 h2 => by rw [mI_ne h2, mI_ne h1]; exact g1 a h1 h2, g2, fun j hj => ?_⟩
      rw [mi_ne (by decide), mi_at, mi_at]
      rw [show mi (mI b 23 k (nI k)) 24 j = mi b 24 j from mi_ne (by decide)]
      by_cases h1 : j = k
      · rw [if_pos h1, if_pos h1, h1]; exact ⟨rfl, by decide⟩
      · rw [if_neg h1, if_neg h1]; exact g3 j (by omega)
  · intro b hP
    obtain ⟨g1, g2, g3⟩ := hP
    have c13 : mi b 13 0 = nI n := by unfold mi; rw [g1 13 (by decide) (by decide)]; exact hc
    have c1 : nI n ≤ nI n := Int32.le_refl _
    refine ⟨⟨fun _ => trivial, fun z => absurd (by show mi b 13 0 ≤ nI n; rw [c13]; exact c1) z⟩, ?_⟩
    show (if (mi b 13 0) ≤ nI n then (false, (nI n, b)) else _) = _
    rw [c13, if_pos c1]
def sN (L : Nat → Nat) : Nat → Nat
  | 0 => 0
  | n + 1 => sN L n + L n
theorem sN_c {L M : Nat → Nat} : ∀ n, (∀ k, k < n → L k = M k) → sN L n = sN M n
  | 0, _ => rfl
  | n + 1, e => by
    show sN L n + L n = sN M n + M n
    rw [sN_c n (fun k hk => e k (by omega)), e n (by omega)]
theorem sN_le {L M : Nat → Nat} : ∀ n, (∀ k, k < n → L k ≤ M k) → sN L n ≤ sN M n
  | 0, _ => Nat.le_refl 0
  | n + 1, e => by
    have h1 := sN_le n (fun k hk => e k (by omega))
    have h2 := e n (by omega)
    show sN L n + L n ≤ sN M n + M n
    omega
theorem sN_lt {L M : Nat → Nat} {j : Nat} (hj : L j < M j) : ∀ n, (∀ k, k < n → L k ≤ M k) → j < n → sN L n < sN M n
  | 0, _, h => absurd h (Nat.not_lt_zero _)
  | n + 1, e, h => by
    have h0 := sN_le n (fun k hk => e k (by omega))
    have h2 := e n (by omega)
    show sN L n + L n < sN M n + M n
    rcases Nat.lt_or_ge j n with g1 | g1
    · have := sN_lt hj n (fun k hk => e k (by omega)) g1; omega
    · have : j = n := by omega
      subst this; omega
theorem sN_b {L : Nat → Nat} {B : Nat} : ∀ n, (∀ k, k < n → L k ≤ B) → sN L n ≤ n * B
  | 0, _ => by simp [sN]
  | n + 1, e => by
    have h1 := sN_b n (fun k hk => e k (by omega))
    have h2 := e n (by omega)
    show sN L n + L n ≤ (n + 1) * B
    rw [Nat.add_mul, Nat.one_mul]
    omega
theorem cdn_c {G H : Nat → Bool} : ∀ n, (∀ k, k < n → G k = H k) → cdn G n = cdn H n
  | 0, _ => rfl
  | n + 1, e => by
    show cdn G n + (if G n = true then 1 else 0) = cdn H n + (if H n = true then 1 else 0)
    rw [cdn_c n (fun k hk => e k (by omega)), e n (by omega)]
def msz (L : Nat → Nat) (A : Nat → Bool) (n : Nat) : Nat := sN L n + (n - cdn A n)
/-- what holds between the rounds -/
def Iv (J : Nat → Nat → Bool) (n : Nat) (L : Nat → Nat) (A : Nat → Bool) : Prop := ∀ k, k < n → cn J k (L k) ∧ L k ≤ k ∧ (A k = true → jd J k)
def Fx (J : Nat → Nat → Bool) (L : Nat → Nat) (A : Nat → Bool) (k m : Nat) : Prop := J k m = true → L k = L m ∧ A k = true ∧ A m = true
/-- within a round that began at L0, A0: rows below k and the first j of row k are done -/
def PS (μ0 : MS) (n : Nat) (J : Nat → Nat → Bool) (L0 : Nat → Nat) (A0 : Nat → Bool) (k j : Nat) (b : Int32 × MS) : Prop := ∃ L A, LW μ0 b.2 n L A ∧ Iv J n L A ∧ ((b.1 = 0 ∧ L = L0 ∧ A = A0 ∧ (∀ k' m, k' < k → m < k' → Fx J L0 A0 k' m) ∧ ∀ m, m < j → Fx J L0 A0 k m) ∨ (b.1 = 1 ∧ msz L A n < msz L0 A0 n))
theorem ps_upd {μ0 μ : MS} {n : Nat} {s : Nat → Nat → Int32} {L : Nat → Nat} {A : Nat → Bool} {k j : Nat} (hn : n ≤ 60) (hk : k < n) (hj : j < k) (hJ : JJ s n k j = true) (hL : LW μ0 μ n L A) (hI : Iv (JJ s n) n L A) (hne : ¬ (L k = L j ∧ A k = true ∧ A j = true)) (t : Int32) (ht : t = nI (min (L k) (L j))) : ∃ L' A', LW μ0 (mI (mI (mI (mI μ 23 k t) 23 j t) 24 k (bz 1)) 24 j (bz 1)) n L' A' ∧ Iv (JJ s n) n L' A' ∧ msz L' A' n < msz L A n := by
  obtain ⟨l1, l2, l3⟩ := hL
  have hjn : j < n := by omega
  have b1 : bz 1 = 1 := by decide
  obtain ⟨ik1, ik2, ik3⟩ := hI k hk
  obtain ⟨ij1, ij2, ij3⟩ := hI j hjn
  refine ⟨fun i => if i = k ∨ i = j then min (L k) (L j) else L i, fun i => if i = k ∨ i = j then true else A i, ⟨fun a h1 h2 => ?_, l2, fun i hi => ?_⟩, fun i hi => ?_, ?_⟩
  · rw [mI_ne h2, mI_ne h2, mI_ne h1, mI_ne h1]; exact l1 a h1 h2
  · obtain ⟨e1, e2⟩ := l3 i hi
    have e3 : mi (mI (mI (mI (mI μ 23 k t) 23 j t) 24 k (bz 1)) 24 j (bz 1)) 23 i = if i = j then t else if i = k then t else mi μ 23 i := by
      rw [mi_ne (by decide), mi_ne (by decide), mi_at, mi_at]
    have e4 : mi (mI (mI (mI (mI μ 23 k t) 23 j t) 24 k (bz 1)) 24 j (bz 1)) 24 i = if i = j then 1 else if i = k then 1 else mi μ 24 i := by
      rw [mi_at, mi_at, b1, show mi (mI (mI μ 23 k t) 23 j t) 24 i = mi μ 24 i from by rw [mi_ne (by decide), mi_ne (by decide)]]
    rw [e3, e4]
    show (if i = j then t else if i = k then t else mi μ 23 i) = nI (if i = k ∨ i = j then min (L k) (L j) else L i) ∧ (if i = j then (1 : Int32) else if i = k then 1 else mi μ 24 i) = if (if i = k ∨ i = j then true else A i) = true then 1 else 0
    by_cases c1 : i = j
    · rw [if_pos c1, if_pos c1, if_pos (Or.inr c1), if_pos (Or.inr c1)]; exact ⟨ht, rfl⟩
    · rw [if_neg c1, if_neg c1]
      by_cases c2 : i = k
      · rw [if_pos c2, if_pos c2, if_pos (Or.inl c2), if_pos (Or.inl c2)]; exact ⟨ht, rfl⟩
      · have nc : ¬ (i = k ∨ i = j) := fun z => z.elim c2 c1
        rw [if_neg c2, if_neg c2, if_neg nc, if_neg nc]
        exact ⟨e1, e2⟩
  · by_cases c : i = k ∨ i = j
    · show cn (JJ s n) i (if i = k ∨ i = j then min (L k) (L j) else L i) ∧ (if i = k ∨ i = j then min (L k) (L j) else L i) ≤ i ∧ _
      rw [if_pos c]
      have hm : min (L k) (L j) = L k ∨ min (L k) (L j) = L j := by omega
      have q1 : cn (JJ s n) k (min (L k) (L j)) := by
        rcases hm with h | h <;> rw [h]
        · exact ik1
        · exact cn_tr (cn_one hJ) ij1
      have q2 : cn (JJ s n) j (min (L k) (L j)) := by
        rcases hm with h | h <;> rw [h]
        · exact cn_tr (cn_one (by rw [(gr_JJ s n).1]; exact hJ)) ik1
        · exact ij1
      rcases c with c | c
      · subst c; exact ⟨q1, by omega, fun _ => ⟨j, hJ⟩⟩
      · subst c; exact ⟨q2, by omega, fun _ => ⟨k, by rw [(gr_JJ s n).1]; exact hJ⟩⟩
    · show cn (JJ s n) i (if i = k ∨ i = j then min (L k) (L j) else L i) ∧ (if i = k ∨ i = j then min (L k) (L j) else L i) ≤ i ∧ ((if i = k ∨ i = j then true else A i) = true → _)
      rw [if_neg c, if_neg c]; exact hI i hi
  · unfold msz
    have a1 : ∀ i, i < n → (fun i => if i = k ∨ i = j then min (L k) (L j) else L i) i ≤ L i := by
      intro i _
      show (if i = k ∨ i = j then min (L k) (L j) else L i) ≤ L i
      split
      · rename_i c; rcases c with c | c <;> subst c <;> omega
      · exact Nat.le_refl _
    have a2 : ∀ i, i < n → A i = true → (fun i => if i = k ∨ i = j then true else A i) i = true := by
      intro i _ h
      show (if i = k ∨ i = j then true else A i) = true
      split
      · rfl
      · exact h
    have s1 := sN_le n a1
    have s2 := cdn_mono n a2
    have s3 := cdn_le (G := fun i => if i = k ∨ i = j then true else A i) n
    by_cases c1 : L k = L j
    · by_cases c2 : A k = true
      · have c3 : ¬ A j = true := fun z => hne ⟨c1, c2, z⟩
        have := cdn_lt (G := A) (H := fun i => if i = k ∨ i = j then true else A i) (j := j) c3 (by show (if j = k ∨ j = j then true else A j) = true; rw [if_pos (Or.inr rfl)]) n a2 hjn
        omega
      · have := cdn_lt (G := A) (H := fun i => if i = k ∨ i = j then true else A i) (j := k) c2 (by show (if k = k ∨ k = j then true else A k) = true; rw [if_pos (Or.inl rfl)]) n a2 hk
        omega
    · rcases Nat.lt_or_ge (L k) (L j) with c2 | c2
      · have := sN_lt (L := fun i => if i = k ∨ i = j then min (L k) (L j) else L i) (M := L) (j := j) (by show (if j = k ∨ j = j then min (L k) (L j) else L j) < L j; rw [if_pos (Or.inr rfl)]; omega) n a1 hjn
        omega
      · have := sN_lt (L := fun i => if i = k ∨ i = j then min (L k) (L j) else L i) (M := L) (j := k) (by show (if k = k ∨ k = j then min (L k) (L j) else L k) < L k; rw [if_pos (Or.inl rfl)]; omega) n a1 hk
        omega
theorem spr50 {μ0 : MS} {n : Nat} {s : Nat → Nat → Int32} (h : MX μ0 n s) (hs : Sok s n) {L0 : Nat → Nat} {A0 : Nat → Bool} {k : Nat} (hk : k < n) (b : Int32 × MS) (hb : PS μ0 n (JJ s n) L0 A0 k 0 b) : ito (s_X11_spreads_50 (nI k)) (os_X11_spreads_50 (nI k)) FU (b.1, 0, b.2) ∧ ∃ b' : Int32 × MS, itr (s_X11_spreads_50 (nI k)) FU (b.1, 0, b.2) = (b'.1, nI k, b'.2) ∧ PS μ0 n (JJ s n) L0 A0 k k b' := by
  have hn := h.1
  refine itr_for (f := s_X11_spreads_50 (nI k)) (o := os_X11_spreads_50 (nI k)) (fun j (b : Int32 × MS) => (b.1, nI j, b.2)) (PS μ0 n (JJ s n) L0 A0 k) (n := k) ?_ ?_ FU 0 b (by omega) (by unfold FU; omega) hb
  · intro j b hj hP
    obtain ⟨w, μ⟩ := b
    obtain ⟨L, A, hL, hI, hw⟩ := hP
    have hjn : j < n := by omega
    have hM := mx_f h (ls_fr hL)
    obtain ⟨v1, e1⟩ := mx_in hM hk
    obtain ⟨v2, e2⟩ := mx_in hM hjn
    obtain ⟨lk1, lk2⟩ := hL.2.2 k hk
    obtain ⟨lj1, lj2⟩ := hL.2.2 j hjn
    have c1 : ¬ nI k ≤ nI j := by rw [nI_leI (by omega) (by omega)]; omega
    have bk := (hI k hk).2.1
    have bj := (hI j hjn).2.1
    obtain ⟨j1, j2, j3⟩ := join_i hM hs hk hjn
    have hJ := JJ_gt (s := s) (n := n) hj hk
    have ca : mi μ 23 k = mi μ 23 j ↔ L k = L j := by rw [lk1, lj1, nI_eq (by omega) (by omega)]
    have cb : mi μ 24 k = 0 ↔ ¬ A k = true := by
      rw [lk2]; by_cases z : A k = true
      · rw [if_pos z]; exact ⟨fun e => absurd e i_1ne0, fun e => absurd z e⟩
      · rw [if_neg z]; exact ⟨fun _ => z, fun _ => rfl⟩
    have cc : mi μ 24 j = 0 ↔ ¬ A j = true := by
      rw [lj2]; by_cases z : A j = true
      · rw [if_pos z]; exact ⟨fun e => absurd e i_1ne0, fun e => absurd z e⟩
      · rw [if_neg z]; exact ⟨fun _ => z, fun _ => rfl⟩
    -- where nothing is to be done
    have stay : ∀ μ', LW μ0 μ' n L A → Fx (JJ s n) L A k j → PS μ0 n (JJ s n) L0 A0 k (j + 1) (w, μ') := by
      intro μ' hL' hx
      refine ⟨L, A, hL', hI, ?_⟩
      rcases hw with ⟨w0, w1, w2, w3, w4⟩ | hw
      · refine Or.inl ⟨w0, w1, w2, w3, fun m hm => ?_⟩
        by_cases z : m = j
        · rw [z, ← w1, ← w2]; exact hx
        · exact w4 m (by omega)
      · exact Or.inr hw
    -- where the join is tried
    have tried : ¬ (L k = L j ∧ A k = true ∧ A j = true) → of_X11_spreads_l50_88 (nI k) w (nI j) μ w (nI j) μ ∧ ∃ b' : Int32 × MS, f_X11_spreads_l50_88 (nI k) w (nI j) μ w (nI j) μ = (true, (b'.1, nI (j + 1), b'.2)) ∧ PS μ0 n (JJ s n) L0 A0 k (j + 1) b' := by
      intro hne
      have hL2 := ls_pl hL j2
      obtain ⟨pk1, pk2⟩ := hL2.2.2 k hk
      obtain ⟨pj1, pj2⟩ := hL2.2.2 j hjn
      unfold f_X11_spreads_l50_88 of_X11_spreads_l50_88 f_X11_spreads_l50_94 of_X11_spreads_l50_94
      rw [j1, e1, e2]
      by_cases cj : jn s k j = true
      · rw [if_pos cj, if_neg i_1ne0]
        have cle : (mi (f_X11_join μ (nI k) (nI j)).2 23 j ≤ mi (f_X11_join μ (nI k) (nI j)).2 23 k) ↔ L j ≤ L k := by rw [pj1, pk1, nI_leI (by omega) (by omega)]
        have upd : ∀ t, t = nI (min (L k) (L j)) → PS μ0 n (JJ s n) L0 A0 k (j + 1) (1, mI (mI (mI (mI (f_X11_join μ (nI k) (nI j)).2 23 k t) 23 j t) 24 k (bz 1)) 24 j (bz 1)) := by
          intro t ht
          obtain ⟨L', A', u1, u2, u3⟩ := ps_upd hn hk hj (hJ.trans cj) hL2 hI hne t ht
          refine ⟨L', A', u1, u2, Or.inr ⟨rfl, ?_⟩⟩
          rcases hw with ⟨w0, w1, w2, w3, w4⟩ | hw
          · rw [← w1, ← w2]; exact u3
          · exact Nat.lt_trans u3 hw.2
        refine ⟨⟨j3, fun z => absurd z i_1ne0, fun _ => ⟨v1, v2, fun _ => ⟨v2, v1, v2, v1, v2, trivial⟩, fun _ => ⟨v1, v1, v2, v1, v2, trivial⟩⟩⟩, ?_⟩
        by_cases cl : L j ≤ L k
        · rw [if_pos (cle.mpr cl)]
          refine ⟨(1, _), ?_, upd (mi (f_X11_join μ (nI k) (nI j)).2 23 j) (by rw [pj1, Nat.min_eq_right cl])⟩
          unfold f_X11_spreads_l50_127 f_X11_spreads_l50_161
          rw [e1, e2, nI_succ]
        · rw [if_neg (fun z => cl (cle.mp z))]
          refine ⟨(1, _), ?_, upd (mi (f_X11_join μ (nI k) (nI j)).2 23 k) (by rw [pk1, Nat.min_eq_left (by omega)])⟩
          unfold f_X11_spreads_l50_127 f_X11_spreads_l50_161
          rw [e1, e2, nI_succ]
      · rw [if_neg cj, if_pos rfl]
        refine ⟨⟨j3, fun _ => trivial, fun z => absurd rfl z⟩, (w, (f_X11_join μ (nI k) (nI j)).2), ?_, stay _ hL2 (fun z => absurd (hJ.symm.trans z) cj)⟩
        unfold f_X11_spreads_l50_161
        rw [nI_succ]
    show ob_X11_spreads_50 (nI k) w (nI j) μ ∧ ∃ b' : Int32 × MS, b_X11_spreads_50 (nI k) w (nI j) μ = (true, (b'.1, nI (j + 1), b'.2)) ∧ PS μ0 n (JJ s n) L0 A0 k (j + 1) b'
    unfold ob_X11_spreads_50 b_X11_spreads_50
    rw [e1, e2, if_neg c1]
    by_cases d1 : L k = L j
    · rw [if_pos (ca.mpr d1)]
      by_cases d2 : A k = true
      · rw [if_neg (fun z => cb.mp z d2)]
        by_cases d3 : A j = true
        · rw [if_neg (fun z => cc.mp z d3)]
          refine ⟨⟨fun z => absurd z c1, fun _ => ⟨v1, v2, fun _ => ⟨v1, fun z => absurd d2 (cb.mp z), fun _ => ⟨v2, fun z => absurd d3 (cc.mp z), fun _ => trivial⟩⟩, fun z => absurd (ca.mpr d1) z⟩⟩, (w, μ), ?_, stay _ hL (fun _ => ⟨d1, d2, d3⟩)⟩
          unfold f_X11_spreads_l50_161
          rw [nI_succ]
        · rw [if_pos (cc.mpr d3)]
          obtain ⟨t1, t2⟩ := tried (fun z => d3 z.2.2)
          exact ⟨⟨fun z => absurd z c1, fun _ => ⟨v1, v2, fun _ => ⟨v1, fun z => absurd d2 (cb.mp z), fun _ => ⟨v2, fun _ => t1, fun z => absurd (cc.mpr d3) z⟩⟩, fun z => absurd (ca.mpr d1) z⟩⟩, t2⟩
      · rw [if_pos (cb.mpr d2)]
        obtain ⟨t1, t2⟩ := tried (fun z => d2 z.2.1)
        exact ⟨⟨fun z => absurd z c1, fun _ => ⟨v1, v2, fun _ => ⟨v1, fun _ => t1, fun z => absurd (cb.mpr d2) z⟩, fun z => absurd (ca.mpr d1) z⟩⟩, t2⟩
    · rw [if_neg (fun z => d1 (ca.mp z))]
      obtain ⟨t1, t2⟩ := tried (fun z => d1 z.1)
      exact ⟨⟨fun z => absurd z c1, fun _ => ⟨v1, v2, fun z => absurd (ca.mp z) d1, fun _ => t1⟩⟩, t2⟩
  · intro b hP
    have c1 : nI k ≤ nI k := Int32.le_refl _
    refine ⟨⟨fun _ => trivial, fun z => absurd c1 z⟩, ?_⟩
    show (if nI k ≤ nI k then (false, (b.1, nI k, b.2)) else _) = _
    rw [if_pos c1]
theorem spr40 {μ0 : MS} {n : Nat} {s : Nat → Nat → Int32} (h : MX μ0 n s) (hs : Sok s n) {L0 : Nat → Nat} {A0 : Nat → Bool} (b : Int32 × MS) (hb : PS μ0 n (JJ s n) L0 A0 0 0 b) : ito s_X11_spreads_40 os_X11_spreads_40 FU (b.1, 0, b.2) ∧ ∃ b' : Int32 × MS, itr s_X11_spreads_40 FU (b.1, 0, b.2) = (b'.1, nI n, b'.2) ∧ PS μ0 n (JJ s n) L0 A0 n 0 b' := by
  have hn := h.1
  refine itr_for (f := s_X11_spreads_40) (o := os_X11_spreads_40) (fun k (b : Int32 × MS) => (b.1, nI k, b.2)) (fun k => PS μ0 n (JJ s n) L0 A0 k 0) (n := n) ?_ ?_ FU 0 b (by omega) (by unfold FU; omega) hb
  · intro k b hk hP
    obtain ⟨i1, b', i2, i3⟩ := spr50 h hs hk b hP
    obtain ⟨w, μ⟩ := b
    obtain ⟨L, A, hL, hI, hw⟩ := hP
    have hM := mx_f h (ls_fr hL)
    have c1 : ¬ nI n ≤ nI k := by rw [nI_leI (by omega) (by omega)]; omega
    show ob_X11_spreads_40 w (nI k) μ ∧ ∃ b' : Int32 × MS, b_X11_spreads_40 w (nI k) μ = (true, (b'.1, nI (k + 1), b'.2)) ∧ PS μ0 n (JJ s n) L0 A0 (k + 1) 0 b'
    unfold ob_X11_spreads_40 b_X11_spreads_40
    rw [hM.2.1, if_neg c1]
    refine ⟨⟨fun z => absurd z c1, fun _ => ⟨i1, trivial⟩⟩, b', ?_, ?_⟩
    · show (true, (((itr (s_X11_spreads_50 (nI k)) FU (w, 0, μ)).1), (nI k + 1), ((itr (s_X11_spreads_50 (nI k)) FU (w, 0, μ)).2.2))) = _
      have i2 : itr (s_X11_spreads_50 (nI k)) FU (w, 0, μ) = (b'.1, nI k, b'.2) := i2
      rw [i2, nI_succ]
    · obtain ⟨L', A', q1, q2, q3⟩ := i3
      refine ⟨L', A', q1, q2, ?_⟩
      rcases q3 with ⟨w0, w1, w2, w3, w4⟩ | q3
      · refine Or.inl ⟨w0, w1, w2, fun k' m hk' hm => ?_, fun m hm => absurd hm (Nat.not_lt_zero _)⟩
        by_cases z : k' = k
        · rw [z]; exact w4 m (by omega)
        · exact w3 k' m (by omega) hm
      · exact Or.inr q3
  · intro b hP
    obtain ⟨w, μ⟩ := b
    obtain ⟨L, A, hL, hI, hw⟩ := hP
    have hM := mx_f h (ls_fr hL)
    have c1 : nI n ≤ nI n := Int32.le_refl _
    show ob_X11_spreads_40 w (nI n) μ ∧ b_X11_spreads_40 w (nI n) μ = (false, (w, nI n, μ))
    unfold ob_X11_spreads_40 b_X11_spreads_40
    rw [hM.2.1, if_pos c1]
    exact ⟨⟨fun _ => trivial, fun z => absurd c1 z⟩, rfl⟩
theorem spreads_i {μ : MS} {n : Nat} {s : Nat → Nat → Int32} (h : MX μ n s) (hs : Sok s n) : of_X11_spreads μ ∧ ∃ A, LW μ (f_X11_spreads μ) n (low (JJ s n)) A ∧ ∀ k, k < n → (A k = true ↔ jd (JJ s n) k) := by
  have hn := h.1
  obtain ⟨p1, μ1, p2, p3⟩ := spr1 hn h.2.1
  have hI0 : Iv (JJ s n) n (fun k => k) (fun _ => false) := fun k _ => ⟨cn_refl k, Nat.le_refl k, fun z => absurd z Bool.false_ne_true⟩
  have hms : ∀ {μ' L A}, LW μ μ' n L A → Iv (JJ s n) n L A → msz (fun k => ix (mi μ' 23 k)) (fun k => decide (¬ mi μ' 24 k = 0)) n = msz L A n := by
    intro μ' L A g1 g2
    unfold msz
    rw [sN_c (L := fun k => ix (mi μ' 23 k)) (M := L) n (fun k hk => by
      show ix (mi μ' 23 k) = L k
      rw [(g1.2.2 k hk).1]; exact clamp_nI (by have := (g2 k hk).2.1; omega)), cdn_c (G := fun k => decide (¬ mi μ' 24 k = 0)) (H := A) n (fun k hk => by
      show decide (¬ mi μ' 24 k = 0) = A k
      rw [(g1.2.2 k hk).2]
      cases A k <;> decide)]
  have hw := itr_inv (f := s_X11_spreads_32) (o := os_X11_spreads_32) (fun v => ∃ L A, LW μ v.2 n L A ∧ Iv (JJ s n) n L A ∧ (v.1 = 0 ∧ (∀ k m, k < n → m < k → Fx (JJ s n) L A k m) ∨ v.1 = 1)) (fun v => if v.1 = 0 then 0 else 1 + msz (fun k => ix (mi v.2 23 k)) (fun k => decide (¬ mi v.2 24 k = 0)) n) ?_ FU (1, μ1) ⟨_, _, p3, hI0, Or.inr rfl⟩ ?_
  · obtain ⟨w1, v, ⟨L, A, g1, g2, g3⟩, w2, w3⟩ := hw
    have hsp : f_X11_spreads μ = (itr s_X11_spreads_32 FU (1, μ1)).2 := by
      show f_X11_spreads_30 μ (itr s_X11_spreads_2 FU (0, μ)).2 = _
      rw [p2]; rfl
    have hof : of_X11_spreads μ := by
      refine ⟨p1, ?_⟩
      show of_X11_spreads_30 μ (itr s_X11_spreads_2 FU (0, μ)).2
      rw [p2]
      exact ⟨w1, trivial⟩
    refine ⟨hof, A, ?_⟩
    have hv0 : v.1 = 0 := by
      by_cases z : v.1 = 0
      · exact z
      · have : (s_X11_spreads_32 v).1 = true := by
          show (b_X11_spreads_32 v.1 v.2).1 = true
          unfold b_X11_spreads_32
          rw [if_neg z]; rfl
        rw [this] at w2; exact absurd w2 (by decide)
    have hv : s_X11_spreads_32 v = (false, v) := by
      show b_X11_spreads_32 v.1 v.2 = _
      unfold b_X11_spreads_32
      rw [if_pos hv0]
    rw [hsp, w3, hv]
    have hfix : ∀ k m, k < n → m < k → Fx (JJ s n) L A k m := by
      rcases g3 with g3 | g3
      · exact g3.2
      · rw [g3] at hv0; exact absurd hv0 i_1ne0
    have hG := gr_JJ s n
    have hall : ∀ k m, JJ s n k m = true → L k = L m ∧ A k = true ∧ A m = true := by
      intro k m z
      obtain ⟨z1, z2⟩ := hG.2 k m z
      rcases Nat.lt_trichotomy k m with g | g | g
      · obtain ⟨y1, y2, y3⟩ := hfix m k z2 g (by rw [hG.1]; exact z)
        exact ⟨y1.symm, y3, y2⟩
      · subst g; rw [JJ_ir] at z; exact absurd z (by decide)
      · exact hfix k m z1 g z
    have hlow := low_fix (J := JJ s n) (n := n) (L := L) (fun k hk => (g2 k hk).1) (fun k hk => (g2 k hk).2.1) (fun k m z => (hall k m z).1)
    refine ⟨⟨g1.1, g1.2.1, fun k hk => ⟨by rw [← hlow k hk]; exact (g1.2.2 k hk).1, (g1.2.2 k hk).2⟩⟩, fun k hk => ⟨(g2 k hk).2.2, fun z => ?_⟩⟩
    obtain ⟨m, hm⟩ := z
    exact (hall k m hm).2.1
  · intro v hv
    obtain ⟨w, μ'⟩ := v
    obtain ⟨L, A, g1, g2, g3⟩ := hv
    have hP0 : PS μ n (JJ s n) L A 0 0 (0, μ') := ⟨L, A, g1, g2, Or.inl ⟨rfl, rfl, rfl, fun k' m hk' _ => absurd hk' (Nat.not_lt_zero _), fun m hm => absurd hm (Nat.not_lt_zero _)⟩⟩
    obtain ⟨i1, b', i2, i3⟩ := spr40 h hs (0, μ') hP0
    show ob_X11_spreads_32 w μ' ∧ ((b_X11_spreads_32 w μ').1 = true → _)
    unfold ob_X11_spreads_32 
    refine ⟨⟨fun _ => trivial, fun _ => ⟨i1, trivial⟩⟩, fun z => ?_⟩
    have hw0 : ¬ w = 0 := by
      intro e
      unfold b_X11_spreads_32 at z
      rw [if_pos e] at z
      exact absurd z Bool.false_ne_true
    have hbs : s_X11_spreads_32 (w, μ') = (true, (b'.1, b'.2)) := by
      show b_X11_spreads_32 w μ' = _
      unfold b_X11_spreads_32 f_X11_spreads_l32_40 f_X11_spreads_l32_173
      have i2 : itr s_X11_spreads_40 FU (0, 0, μ') = (b'.1, nI n, b'.2) := i2
      rw [if_neg hw0, i2]
    rw [hbs]
    obtain ⟨L', A', q1, q2, q3⟩ := i3
    refine ⟨⟨L', A', q1, q2, ?_⟩, ?_⟩
    · rcases q3 with ⟨w0, w1, w2, w3, w4⟩ | q3
      · refine Or.inl ⟨w0, fun k m hk hm => ?_⟩
        rw [w1, w2]; exact w3 k m hk hm
      · exact Or.inr q3.1
    · show (if b'.1 = 0 then 0 else 1 + msz (fun k => ix (mi b'.2 23 k)) (fun k => decide (¬ mi b'.2 24 k = 0)) n) < (if w = 0 then 0 else 1 + msz (fun k => ix (mi μ' 23 k)) (fun k => decide (¬ mi μ' 24 k = 0)) n)
      rw [if_neg hw0, hms q1 q2, hms g1 g2]
      rcases q3 with ⟨w0, w1, w2, w3, w4⟩ | q3
      · rw [if_pos w0]; omega
      · rw [q3.1, if_neg i_1ne0]; have := q3.2; omega
  · show (if (1 : Int32) = 0 then 0 else 1 + msz (fun k => ix (mi μ1 23 k)) (fun k => decide (¬ mi μ1 24 k = 0)) n) < FU
    rw [if_neg i_1ne0, hms p3 hI0]
    unfold msz FU
    have := sN_b (L := fun k => k) (B := 60) n (fun k hk => by show k ≤ 60; omega)
    have : n * 60 ≤ 60 * 60 := Nat.mul_le_mul hn (Nat.le_refl _)
    omega

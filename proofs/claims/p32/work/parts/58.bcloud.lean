/-! ===== loops that search ===== -/
theorem itr_find {α : Type} {f : α → Bool × α} {o : α → Prop} (at' : Nat → α → Prop) (Q : Nat → Prop) (R : Nat → α) (E : α) {n : Nat} (hs : ∀ k a, k < n → at' k a → ¬ Q k → o a ∧ ∃ b, f a = (true, b) ∧ at' (k + 1) b) (hf : ∀ k a, k < n → at' k a → Q k → o a ∧ f a = (false, R k)) (he : ∀ a, at' n a → o a ∧ f a = (false, E)) : ∀ m k a, k ≤ n → n - k < m → at' k a → ito f o m a ∧ ((∃ j, k ≤ j ∧ j < n ∧ Q j ∧ (∀ i, k ≤ i → i < j → ¬ Q i) ∧ itr f m a = R j) ∨ ((∀ j, k ≤ j → j < n → ¬ Q j) ∧ itr f m a = E)) := by
  intro m
  induction m with
  | zero => intro k a _ h2 _; exact absurd h2 (Nat.not_lt_zero _)
  | succ m ih =>
    intro k a hk hm ha
    have un : ∀ (c : Bool) (r : α), f a = (c, r) → itr f (m + 1) a = if c = true then itr f m r else r := fun c r h => by
      show (if (f a).1 = true then itr f m (f a).2 else (f a).2) = _
      rw [h]
    rcases Nat.lt_or_ge k n with hl | hl
    · by_cases hq : Q k
      · obtain ⟨h1, h2⟩ := hf k a hl ha hq
        refine ⟨⟨h1, fun h9 => by rw [h2] at h9; exact absurd h9 Bool.false_ne_true⟩, Or.inl ⟨k, Nat.le_refl k, hl, hq, fun i i1 i2 => by omega, ?_⟩⟩
        rw [un _ _ h2]; rfl
      · obtain ⟨h1, b, h2, h3⟩ := hs k a hl ha hq
        obtain ⟨i1, i2⟩ := ih (k + 1) b hl (by omega) h3
        refine ⟨⟨h1, fun _ => by rw [h2]; exact i1⟩, ?_⟩
        rw [un _ _ h2, if_pos rfl]
        rcases i2 with ⟨j, j1, j2, j3, j4, j5⟩ | ⟨j1, j2⟩
        · refine Or.inl ⟨j, by omega, j2, j3, fun i i1 i2 => ?_, j5⟩
          by_cases e : i = k
          · rw [e]; exact hq
          · exact j4 i (by omega) i2
        · refine Or.inr ⟨fun j y1 y2 => ?_, j2⟩
          by_cases e : j = k
          · rw [e]; exact hq
          · exact j1 j (by omega) y2
    · have e : k = n := by omega
      subst e
      obtain ⟨h1, h2⟩ := he a ha
      refine ⟨⟨h1, fun h9 => by rw [h2] at h9; exact absurd h9 Bool.false_ne_true⟩, Or.inr ⟨fun j y1 y2 => by omega, ?_⟩⟩
      rw [un _ _ h2]; rfl
/-! ===== sightings of a camera in a night ===== -/
theorem hs_i {σ : XS} {x : Nat} {μ : MS} {n0 n2 : Nat} (hc : RCam σ μ n0) (h : RSis σ μ n0 n2) {c : Nat} (hcn : c < n0) (a : Int32) : of_X10_hasSighting σ x (xe σ 0 c) a ∧ anyP (fun j => mi μ 14 j = nI c ∧ mi μ 15 j = a) n2 (f_X10_hasSighting σ x (xe σ 0 c) a) := by
  obtain ⟨h60, hn, ⟨hl, hk, -⟩, hf⟩ := h
  obtain ⟨h10, -, ⟨-, ck, cinj⟩, -⟩ := hc
  have ceq : ∀ j, j < n2 → (xr σ 140 (xe σ 2 j) = xe σ 0 c ↔ mi μ 14 j = nI c) ∧ xi σ 141 (xe σ 2 j) = mi μ 15 j ∧ xk σ (xr σ 140 (xe σ 2 j)) = 1 := by
    intro j hj
    obtain ⟨⟨-, ⟨d, d1, d2, d3⟩, d4, -⟩, -⟩ := hf j hj
    refine ⟨?_, d4, by rw [d3]; exact ck d d1⟩
    rw [d3, d2, nI_eq (by omega) (by omega)]
    exact ⟨fun z => cinj d c d1 hcn z, fun z => by rw [z]⟩
  have stepf : ∀ (k : Nat) (v : Int32 × Option Int32), k < n2 → v.1 = nI k → os_X10_hasSighting_2 x (xe σ 0 c) a σ v ∧ s_X10_hasSighting_2 x (xe σ 0 c) a σ v = if mi μ 14 k = nI c ∧ mi μ 15 k = a then (false, (nI k, some 1)) else (true, (nI (k + 1), none)) := by
    intro k v hk2 hv
    obtain ⟨q1, q2, q3⟩ := ceq k hk2
    have c1 : ¬ nI n2 ≤ nI k := by rw [nI_leI (by omega) (by omega)]; omega
    have e1 : ix (nI k) = k := clamp_nI (by omega)
    show ob_X10_hasSighting_2 x (xe σ 0 c) a σ v.1 ∧ b_X10_hasSighting_2 x (xe σ 0 c) a σ v.1 = _
    unfold ob_X10_hasSighting_2 b_X10_hasSighting_2 f_X10_hasSighting_l2_50
    rw [hv, hl, e1, if_neg c1, q2, ← nI_succ]
    refine ⟨⟨fun z => absurd z c1, fun _ => ⟨nI_in hk2 (by omega), hk k hk2, q3, trivial⟩⟩, ?_⟩
    by_cases z1 : mi μ 14 k = nI c
    · rw [if_pos (q1.mpr z1)]
      by_cases z2 : mi μ 15 k = a
      · rw [if_pos z2, if_pos ⟨z1, z2⟩]
      · rw [if_neg z2, if_neg (fun z => z2 z.2)]
    · rw [if_neg (fun z => z1 (q1.mp z)), if_neg (fun z => z1 z.1)]
  have hl9 := itr_find (f := s_X10_hasSighting_2 x (xe σ 0 c) a σ) (o := os_X10_hasSighting_2 x (xe σ 0 c) a σ) (fun k v => v.1 = nI k) (fun j => mi μ 14 j = nI c ∧ mi μ 15 j = a) (fun k => (nI k, some 1)) (nI n2, none) (n := n2) (fun k v hk2 hv hq => by
    obtain ⟨s1, s2⟩ := stepf k v hk2 hv
    rw [if_neg hq] at s2
    exact ⟨s1, _, s2, rfl⟩) (fun k v hk2 hv hq => by
    obtain ⟨s1, s2⟩ := stepf k v hk2 hv
    rw [if_pos hq] at s2
    exact ⟨s1, s2⟩) (fun v hv => by
    have c1 : nI n2 ≤ nI n2 := Int32.le_refl _
    show ob_X10_hasSighting_2 x (xe σ 0 c) a σ v.1 ∧ b_X10_hasSighting_2 x (xe σ 0 c) a σ v.1 = _
    unfold ob_X10_hasSighting_2 b_X10_hasSighting_2
    rw [hv, hl, if_pos c1]
    exact ⟨⟨fun _ => trivial, fun z => absurd c1 z⟩, rfl⟩) FU 0 (0, none) (by omega) (by unfold FU; omega) rfl
  obtain ⟨l1, l2⟩ := hl9
  have hfe : f_X10_hasSighting σ x (xe σ 0 c) a = lret (itr (s_X10_hasSighting_2 x (xe σ 0 c) a σ) FU (0, none)).2 0 := rfl
  rw [hfe]
  rcases l2 with ⟨j, -, j2, j3, -, j5⟩ | ⟨j1, j2⟩
  · refine ⟨⟨l1, by rw [j5]; trivial⟩, ?_⟩
    rw [j5]
    exact Or.inl ⟨rfl, j, j2, j3⟩
  · refine ⟨⟨l1, by rw [j2]; trivial⟩, ?_⟩
    rw [j2]
    exact Or.inr ⟨rfl, fun ⟨j, y1, y2⟩ => j1 j (by omega) y1 y2⟩
theorem mhs_i {μ : MS} {n2 : Nat} (h60 : n2 ≤ 60) (hn : mi μ 13 0 = nI n2) (c a : Int32) {w0 : Int32} (hz : zb w0) : ito (s_X11_cloud_10 c a μ) (os_X11_cloud_10 c a μ) FU (w0, 0) ∧ ∃ w, itr (s_X11_cloud_10 c a μ) FU (w0, 0) = (w, nI n2) ∧ ((w = 1 ∧ (w0 = 1 ∨ ∃ j, j < n2 ∧ mi μ 14 j = c ∧ mi μ 15 j = a)) ∨ (w = 0 ∧ w0 = 0 ∧ ¬ ∃ j, j < n2 ∧ mi μ 14 j = c ∧ mi μ 15 j = a)) := by
  refine itr_for (f := s_X11_cloud_10 c a μ) (o := os_X11_cloud_10 c a μ) (fun j (w : Int32) => (w, nI j)) (fun k w => (w = 1 ∧ (w0 = 1 ∨ ∃ j, j < k ∧ mi μ 14 j = c ∧ mi μ 15 j = a)) ∨ (w = 0 ∧ w0 = 0 ∧ ¬ ∃ j, j < k ∧ mi μ 14 j = c ∧ mi μ 15 j = a)) (n := n2) ?_ ?_ FU 0 w0 (by omega) (by unfold FU; omega) ?_
  · intro j w hj hw
    have c1 : ¬ nI n2 ≤ nI j := by rw [nI_leI (by omega) (by omega)]; omega
    have e1 : ix (nI j) = j := clamp_nI (by omega)
    have v1 : vp_in (nI j) 60 := nI_in (by omega) (by decide)
    show ob_X11_cloud_10 c a μ w (nI j) ∧ ∃ w', b_X11_cloud_10 c a μ w (nI j) = (true, (w', nI (j + 1))) ∧ _
    unfold ob_X11_cloud_10 b_X11_cloud_10 f_X11_cloud_l10_50
    rw [hn, e1, if_neg c1, nI_succ]
    refine ⟨⟨fun z => absurd z c1, fun _ => ⟨fun _ => ⟨v1, fun _ => ⟨v1, trivial⟩, fun _ => trivial⟩, fun _ => trivial⟩⟩, ?_⟩
    have no : w = 0 → ¬ (mi μ 14 j = c ∧ mi μ 15 j = a) → ((0 : Int32) = 1 ∧ (w0 = 1 ∨ ∃ i, i < j + 1 ∧ mi μ 14 i = c ∧ mi μ 15 i = a)) ∨ ((0 : Int32) = 0 ∧ w0 = 0 ∧ ¬ ∃ i, i < j + 1 ∧ mi μ 14 i = c ∧ mi μ 15 i = a) := by
      intro z0 zn
      rcases hw with ⟨h1, -⟩ | ⟨-, h2, h3⟩
      · rw [z0] at h1; exact absurd h1.symm i_1ne0
      · refine Or.inr ⟨rfl, h2, fun ⟨i, i1, i2⟩ => ?_⟩
        by_cases e : i = j
        · rw [e] at i2; exact zn i2
        · exact h3 ⟨i, by omega, i2⟩
    by_cases q0 : w = 0
    · rw [if_pos q0]
      by_cases q1 : mi μ 14 j = c
      · rw [if_pos q1]
        by_cases q2 : mi μ 15 j = a
        · rw [if_pos q2]; exact ⟨1, rfl, Or.inl ⟨rfl, Or.inr ⟨j, by omega, q1, q2⟩⟩⟩
        · rw [if_neg q2]; exact ⟨0, rfl, no q0 (fun z => q2 z.2)⟩
      · rw [if_neg q1]; exact ⟨0, rfl, no q0 (fun z => q1 z.1)⟩
    · rw [if_neg q0]
      refine ⟨1, rfl, Or.inl ⟨rfl, ?_⟩⟩
      rcases hw with ⟨-, h2⟩ | ⟨h1, -⟩
      · rcases h2 with h2 | ⟨i, i1, i2⟩
        · exact Or.inl h2
        · exact Or.inr ⟨i, by omega, i2⟩
      · exact absurd h1 q0
  · intro w _
    have c1 : nI n2 ≤ nI n2 := Int32.le_refl _
    show ob_X11_cloud_10 c a μ w (nI n2) ∧ b_X11_cloud_10 c a μ w (nI n2) = _
    unfold ob_X11_cloud_10 b_X11_cloud_10
    rw [hn, if_pos c1]
    exact ⟨⟨fun _ => trivial, fun z => absurd c1 z⟩, rfl⟩
  · rcases hz with z | z
    · exact Or.inr ⟨z, z, fun ⟨_, y, _⟩ => absurd y (Nat.not_lt_zero _)⟩
    · exact Or.inl ⟨z, Or.inl z⟩
/-- how many clouds a camera has, by the reference -/
theorem mcn_i {μ : MS} {n1 : Nat} (h50 : n1 ≤ 50) (hn : mi μ 5 0 = nI n1) (c : Int32) : ito (s_X11_cloud_147 c μ) (os_X11_cloud_147 c μ) FU (0, 0) ∧ itr (s_X11_cloud_147 c μ) FU (0, 0) = (nI (cdn (fun j => decide (mi μ 6 j = c)) n1), nI n1) := by
  have hl9 := itr_for (f := s_X11_cloud_147 c μ) (o := os_X11_cloud_147 c μ) (fun j (w : Int32) => (w, nI j)) (fun j w => w = nI (cdn (fun j => decide (mi μ 6 j = c)) j)) (n := n1) ?_ ?_ FU 0 0 (by omega) (by unfold FU; omega) rfl
  · obtain ⟨l1, w, l2, l3⟩ := hl9
    refine ⟨l1, ?_⟩
    have l2 : itr (s_X11_cloud_147 c μ) FU (0, 0) = (w, nI n1) := l2
    rw [l2, l3]
  · intro j w hj hw
    have c1 : ¬ nI n1 ≤ nI j := by rw [nI_leI (by omega) (by omega)]; omega
    have e1 : ix (nI j) = j := clamp_nI (by omega)
    have v1 : vp_in (nI j) 50 := nI_in (by omega) (by decide)
    show ob_X11_cloud_147 c μ w (nI j) ∧ ∃ w', b_X11_cloud_147 c μ w (nI j) = (true, (w', nI (j + 1))) ∧ _
    unfold ob_X11_cloud_147 b_X11_cloud_147 f_X11_cloud_l147_174
    rw [hn, e1, if_neg c1, nI_succ]
    refine ⟨⟨fun z => absurd z c1, fun _ => ⟨v1, trivial⟩⟩, ?_⟩
    by_cases q : mi μ 6 j = c
    · rw [if_pos q]
      refine ⟨w + 1, rfl, ?_⟩
      rw [cdn_s, if_pos (decide_eq_true q), hw, nI_succ]
    · rw [if_neg q]
      refine ⟨w + 0, rfl, ?_⟩
      have : ¬ decide (mi μ 6 j = c) = true := fun z => q (of_decide_eq_true z)
      rw [cdn_s, if_neg this, hw, show (0 : Int32) = nI 0 from rfl, nI_add]
  · intro w _
    have c1 : nI n1 ≤ nI n1 := Int32.le_refl _
    show ob_X11_cloud_147 c μ w (nI n1) ∧ b_X11_cloud_147 c μ w (nI n1) = _
    unfold ob_X11_cloud_147 b_X11_cloud_147
    rw [hn, if_pos c1]
    exact ⟨⟨fun _ => trivial, fun z => absurd c1 z⟩, rfl⟩
theorem cloud_rep {σ : XS} {x : Nat} {μ : MS} {n0 n1 n2 n4 n5 n6 nq c : Nat} {t p1 : Int32} (hq : xk σ nq = 0) (hn : n1 < 50) (hc : c < n0) (r1 : rng 0 3649 p1) (hno : ¬ ∃ j, j < n1 ∧ mi μ 6 j = nI c ∧ mi μ 7 j = p1) (h : Rep0 σ x μ n0 n1 n2 n4 n5 n6) : Rep0 (xAdd (xI (xR (xNew σ 2 nq) 40 nq (xe σ 0 c)) 41 nq p1) 1 nq) x (mI (mI (mI (mI μ 0 0 t) 6 n1 (nI c)) 7 n1 p1) 5 0 (nI n1 + 1)) n0 (n1 + 1) n2 n4 n5 n6 := by
  have g : Agr σ (xI (xR (xNew σ 2 nq) 40 nq (xe σ 0 c)) 41 nq p1) := agr_I (agr_R (agr_new hq (by omega)) hq (by omega)) hq (by omega)
  have h1 := agr_rep g h
  have f1 := lst_fresh (h.2.2.1.2.2.1) hq (by decide)
  have hf1 : ∀ i, i < n1 → xe (xI (xR (xNew σ 2 nq) 40 nq (xe σ 0 c)) 41 nq p1) 1 i ≠ nq := f1
  have hk1 : xk (xI (xR (xNew σ 2 nq) 40 nq (xe σ 0 c)) 41 nq p1) nq = 2 := by
    show xk (xNew σ 2 nq) nq = 2
    rw [new_xk, if_pos rfl]
  have v0 : xr (xI (xR (xNew σ 2 nq) 40 nq (xe σ 0 c)) 41 nq p1) 40 nq = xe (xI (xR (xNew σ 2 nq) 40 nq (xe σ 0 c)) 41 nq p1) 0 c := by
    show xr (xR (xNew σ 2 nq) 40 nq (xe σ 0 c)) 40 nq = xe σ 0 c
    rw [xrr_at, if_pos rfl]
  have v1 : xi (xI (xR (xNew σ 2 nq) 40 nq (xe σ 0 c)) 41 nq p1) 41 nq = p1 := by
    rw [xi_at, if_pos rfl]
  obtain ⟨σ1, e1⟩ : ∃ z, xI (xR (xNew σ 2 nq) 40 nq (xe σ 0 c)) 41 nq p1 = z := ⟨_, rfl⟩
  rw [e1] at h1 hk1 v0 v1 hf1 ⊢
  obtain ⟨a0, ac, al, ab, as', aw, ak, at', ala, an, ar, a3, x5, x6, x9⟩ := h1
  obtain ⟨c1, c2, c3, c4, c5⟩ := al
  have hxe : ∀ k, k < n1 → xe (xAdd σ1 1 nq) 1 k = xe σ1 1 k := fun k hk => add_xe (Or.inr (by rw [c3.1]; omega))
  have hlast : xe (xAdd σ1 1 nq) 1 n1 = nq := by have := add_last σ1 1 nq; rw [c3.1] at this; exact this
  have m6 : ∀ i, mi (mI (mI (mI (mI μ 0 0 t) 6 n1 (nI c)) 7 n1 p1) 5 0 (nI n1 + 1)) 6 i = if i = n1 then nI c else mi μ 6 i := fun i => by
    show mi (mI (mI μ 0 0 t) 6 n1 (nI c)) 6 i = _
    rw [mi_at]; rfl
  have m7 : ∀ i, mi (mI (mI (mI (mI μ 0 0 t) 6 n1 (nI c)) 7 n1 p1) 5 0 (nI n1 + 1)) 7 i = if i = n1 then p1 else mi μ 7 i := fun i => by
    show mi (mI (mI (mI μ 0 0 t) 6 n1 (nI c)) 7 n1 p1) 7 i = _
    rw [mi_at]; rfl
  refine ⟨a0, ac, ⟨by omega, ?_, add_lst c3 hk1 hf1, fun i hi => ?_, fun i k hi hk z1 z2 => ?_⟩, ab, as', aw, ak, at', ala, an, ar, a3, x5, x6, x9⟩
  · rw [mi_at, if_pos rfl, nI_succ]
  · rw [m6, m7]
    by_cases ci : i = n1
    · rw [if_pos ci, if_pos ci, ci, hlast]
      exact ⟨c, hc, rfl, v0, v1, r1⟩
    · rw [if_neg ci, if_neg ci, hxe i (by omega)]
      exact c4 i (by omega)
  · rw [m6, m6] at z1
    rw [m7, m7] at z2
    by_cases ci : i = n1
    · by_cases ck : k = n1
      · omega
      · rw [if_pos ci, if_neg ck] at z1 z2
        exact absurd ⟨k, by omega, z1.symm, z2.symm⟩ hno
    · by_cases ck : k = n1
      · rw [if_neg ci, if_pos ck] at z1 z2
        exact absurd ⟨i, by omega, z1, z2⟩ hno
      · rw [if_neg ci, if_neg ck] at z1 z2
        exact c5 i k (by omega) (by omega) z1 z2

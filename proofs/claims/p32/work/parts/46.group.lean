/-! ===== the class's groups ===== -/
theorem tb_ge (w : Int64) {m : Nat} (h : 64 ≤ m) : tb w m = false := BitVec.getLsbD_of_ge _ _ h
theorem mk_all {σ : XS} {n : Nat} {s : Nat → Nat → Int32} (hn : n ≤ 60) (h : MK σ n (JJ s n)) {k : Nat} (hk : k < n) (m : Nat) : tb (xj σ 149 (xe σ 2 k)) m = JJ s n k m := by
  rcases Nat.lt_or_ge m 64 with g | g
  · exact h k hk m g
  · rw [tb_ge _ g]
    cases z : JJ s n k m with
    | false => rfl
    | true => have := ((gr_JJ s n).2 k m z).2; omega
theorem grp35 {σ : XS} {x n : Nat} {s : Nat → Nat → Int32} (h : SX σ x n s) (hM : MK σ n (JJ s n)) (v5 : Int32) (v6 w : Int64) (S : Nat → Prop) (hS : ∀ i m, S i → JJ s n i m = true → S m) (hw : ∀ m, tb w m = true → S m) : ito (s_X10_groupOf_35 x v5 v6 σ) (os_X10_groupOf_35 x v5 v6 σ) FU (w, 0) ∧ ∃ w', itr (s_X10_groupOf_35 x v5 v6 σ) FU (w, 0) = (w', nI n) ∧ (∀ m, tb w m = true → tb w' m = true) ∧ (∀ m, tb w' m = true → S m) ∧ ∀ i m, tb w i = true → JJ s n i m = true → tb w' m = true := by
  have hn := h.1
  have hl := itr_for (f := s_X10_groupOf_35 x v5 v6 σ) (o := os_X10_groupOf_35 x v5 v6 σ) (fun i (b : Int64) => (b, nI i)) (fun i b => (∀ m, tb w m = true → tb b m = true) ∧ (∀ m, tb b m = true → S m) ∧ ∀ j m, j < i → tb w j = true → JJ s n j m = true → tb b m = true) (n := n) ?_ ?_ FU 0 w (by omega) (by unfold FU; omega) ⟨fun _ h => h, hw, fun j m hj => absurd hj (Nat.not_lt_zero _)⟩
  · obtain ⟨l1, w', l2, l3, l4, l5⟩ := hl
    exact ⟨l1, w', l2, l3, l4, fun i m h1 h2 => l5 i m ((gr_JJ s n).2 i m h2).1 h1 h2⟩
  · intro i b hi hP
    obtain ⟨p1, p2, p3⟩ := hP
    have c1 : ¬ nI n ≤ nI i := by rw [nI_leI (by omega) (by omega)]; omega
    have e2 : ix (nI i) = i := clamp_nI (by omega)
    have vi : vp_in (nI i) n := nI_in hi (by omega)
    have i7 := (h.2.2.2.2.1 i hi).1
    show ob_X10_groupOf_35 x v5 v6 σ b (nI i) ∧ ∃ b', b_X10_groupOf_35 x v5 v6 σ b (nI i) = (true, (b', nI (i + 1))) ∧ _
    unfold ob_X10_groupOf_35 b_X10_groupOf_35 f_X10_groupOf_l35_78
    rw [h.2.1, e2, if_neg c1, holds_i b (by omega), nI_succ]
    refine ⟨⟨fun z => absurd z c1, fun _ => ⟨fun _ => trivial, fun _ => ⟨vi, i7, trivial⟩⟩⟩, ?_⟩
    by_cases c : tb b i = true
    · rw [if_pos c, if_neg i_1ne0]
      have hor : ∀ m, tb (b ||| xj σ 149 (xe σ 2 i)) m = (tb b m || JJ s n i m) := fun m => by rw [tb_or, mk_all hn hM hi]
      refine ⟨_, rfl, fun m hm => by rw [hor, p1 m hm]; rfl, fun m hm => ?_, fun j m hj h1 h2 => ?_⟩
      · rw [hor, Bool.or_eq_true] at hm
        rcases hm with hm | hm
        · exact p2 m hm
        · exact hS i m (p2 i c) hm
      · rw [hor]
        by_cases c2 : j = i
        · subst c2; rw [h2, Bool.or_true]
        · rw [p3 j m (by omega) h1 h2]; rfl
    · rw [if_neg c, if_pos rfl]
      refine ⟨_, rfl, p1, p2, fun j m hj h1 h2 => ?_⟩
      by_cases c2 : j = i
      · subst c2; exact absurd (p1 j h1) c
      · exact p3 j m (by omega) h1 h2
  · intro b hP
    have c1 : nI n ≤ nI n := Int32.le_refl _
    show ob_X10_groupOf_35 x v5 v6 σ b (nI n) ∧ b_X10_groupOf_35 x v5 v6 σ b (nI n) = _
    unfold ob_X10_groupOf_35 b_X10_groupOf_35
    rw [h.2.1, if_pos c1]
    exact ⟨⟨fun _ => trivial, fun z => absurd c1 z⟩, rfl⟩
theorem groupOf_i {σ : XS} {x n : Nat} {s : Nat → Nat → Int32} (h : SX σ x n s) (hM : MK σ n (JJ s n)) {k : Nat} (hk : k < n) : of_X10_groupOf σ x (nI k) ∧ ∀ m, tb (f_X10_groupOf σ x (nI k)) m = true ↔ cn (JJ s n) k m := by
  have hn := h.1
  have hG := gr_JJ s n
  have hlt : ∀ m, cn (JJ s n) k m → m < n := by
    intro m hc
    rcases cn_out (cn_sym hG hc) with e | ⟨l, hl⟩
    · omega
    · exact (hG.2 m l hl).1
  have hw := itr_inv (f := s_X10_groupOf_10 x σ) (o := os_X10_groupOf_10 x σ) (fun v => ∃ r, r ≤ n ∧ v.2.2 = nI r ∧ tb v.1 k = true ∧ (∀ m, tb v.1 m = true → cn (JJ s n) k m) ∧ (v.2.1 = 1 ∧ r + 1 ≤ cdn (tb v.1) n ∨ v.2.1 = 0 ∧ ∀ i m, tb v.1 i = true → JJ s n i m = true → tb v.1 m = true)) (fun v => n - ix v.2.2) ?_ FU ((1 : Int64) <<< ((nI k).toInt64 &&& 63), 1, 0) ?_ ?_
  · obtain ⟨w1, v, ⟨r, g1, g2, g3, g4, g5⟩, w2, w3⟩ := hw
    have hgo : f_X10_groupOf σ x (nI k) = (itr (s_X10_groupOf_10 x σ) FU ((1 : Int64) <<< ((nI k).toInt64 &&& 63), 1, 0)).1 := rfl
    have hfin : s_X10_groupOf_10 x σ v = (false, v) ∧ v.2.1 = 0 := by
      show b_X10_groupOf_10 x σ v.1 v.2.1 v.2.2 = _ ∧ _
      have w2 : (b_X10_groupOf_10 x σ v.1 v.2.1 v.2.2).1 = false := w2
      unfold b_X10_groupOf_10 at w2 ⊢
      by_cases c : v.2.1 = 0
      · rw [if_pos c]; exact ⟨rfl, c⟩
      · rw [if_neg c] at w2 ⊢
        by_cases c2 : nI (xn σ 2) ≤ v.2.2
        · exfalso
          rw [h.2.1, g2, nI_leI (by omega) (by omega)] at c2
          rcases g5 with g5 | g5
          · have := cdn_le (G := tb v.1) n; omega
          · exact c g5.1
        · rw [if_neg c2] at w2
          unfold f_X10_groupOf_l10_35 f_X10_groupOf_l10_84 f_X10_groupOf_l10_96 at w2
          split at w2 <;> exact absurd w2.symm Bool.false_ne_true
    refine ⟨⟨w1, trivial⟩, fun m => ?_⟩
    rw [hgo, w3, hfin.1]
    have hcl : ∀ i m, tb v.1 i = true → JJ s n i m = true → tb v.1 m = true := by
      rcases g5 with g5 | g5
      · rw [hfin.2] at g5; exact absurd g5.1 (by decide)
      · exact g5.2
    exact grp_fix (G := tb v.1) g3 g4 hcl m
  · intro v hv
    obtain ⟨w, t, q⟩ := v
    obtain ⟨r, g1, g2, g3, g4, g5⟩ := hv
    have g2 : q = nI r := g2
    subst g2
    have g3 : tb w k = true := g3
    have g4 : ∀ m, tb w m = true → cn (JJ s n) k m := g4
    have g5 : t = 1 ∧ r + 1 ≤ cdn (tb w) n ∨ t = 0 ∧ ∀ i m, tb w i = true → JJ s n i m = true → tb w m = true := g5
    obtain ⟨i1, w', i2, i3, i4, i5⟩ := grp35 h hM (nI r) w w (fun m => cn (JJ s n) k m) (fun i m a b => cn_tr a (cn_one b)) g4
    show ob_X10_groupOf_10 x σ w t (nI r) ∧ ((b_X10_groupOf_10 x σ w t (nI r)).1 = true → _)
    refine ⟨⟨fun _ => trivial, fun _ => ⟨fun _ => trivial, fun _ => ⟨i1, trivial⟩⟩⟩, fun hz => ?_⟩
    have hc : ¬ t = 0 := fun c => by
      unfold b_X10_groupOf_10 at hz
      rw [if_pos c] at hz; exact absurd hz Bool.false_ne_true
    have hc2 : ¬ nI (xn σ 2) ≤ nI r := fun c => by
      unfold b_X10_groupOf_10 at hz
      rw [if_neg hc, if_pos c] at hz; exact absurd hz Bool.false_ne_true
    have hr : r < n := by
      rw [h.2.1, nI_leI (by omega) (by omega)] at hc2; omega
    have hcd : r + 1 ≤ cdn (tb w) n := by
      rcases g5 with g5 | g5
      · exact g5.2
      · exact absurd g5.1 hc
    have e1 : ix (nI r) = r := clamp_nI (by omega)
    have e2 : ix (nI (r + 1)) = r + 1 := clamp_nI (by omega)
    by_cases ceq : w' = w
    · have hb : s_X10_groupOf_10 x σ (w, t, nI r) = (true, (w, 0, nI (r + 1))) := by
        show b_X10_groupOf_10 x σ w t (nI r) = _
        unfold b_X10_groupOf_10 f_X10_groupOf_l10_35 f_X10_groupOf_l10_84 f_X10_groupOf_l10_96
        rw [if_neg hc, if_neg hc2, i2]
        show (if lg_cmp w' w = 0 then _ else _) = _
        rw [if_pos ((lg_cmp_eq _ _).mpr ceq), ceq, nI_succ]
      rw [hb]
      refine ⟨⟨r + 1, by omega, rfl, g3, g4, Or.inr ⟨rfl, fun i m a b => by rw [← ceq]; exact i5 i m a b⟩⟩, ?_⟩
      show n - ix (nI (r + 1)) < n - ix (nI r)
      rw [e1, e2]; omega
    · have hb : s_X10_groupOf_10 x σ (w, t, nI r) = (true, (w', 1, nI (r + 1))) := by
        show b_X10_groupOf_10 x σ w t (nI r) = _
        unfold b_X10_groupOf_10 f_X10_groupOf_l10_35 f_X10_groupOf_l10_84 f_X10_groupOf_l10_96
        rw [if_neg hc, if_neg hc2, i2]
        show (if lg_cmp w' w = 0 then _ else _) = _
        rw [if_neg (fun z => ceq ((lg_cmp_eq _ _).mp z)), nI_succ]
      rw [hb]
      refine ⟨⟨r + 1, by omega, rfl, i3 k g3, i4, Or.inl ⟨rfl, ?_⟩⟩, ?_⟩
      · have hex : ∃ m, ¬ tb w m = true ∧ tb w' m = true := by
          apply Classical.byContradiction
          intro hne
          apply ceq
          apply tb_ext
          intro i _
          cases z : tb w i with
          | true => exact i3 i z
          | false =>
            cases z2 : tb w' i with
            | false => rfl
            | true => exact absurd ⟨i, by rw [z]; exact Bool.false_ne_true, z2⟩ hne
        obtain ⟨m, m1, m2⟩ := hex
        have := cdn_lt m1 m2 n (fun j _ hj => i3 j hj) (hlt m (i4 m m2))
        show r + 1 + 1 ≤ cdn (tb w') n
        omega
      · show n - ix (nI (r + 1)) < n - ix (nI r)
        rw [e1, e2]; omega
  · refine ⟨0, by omega, rfl, ?_, fun m hm => ?_, Or.inl ⟨rfl, ?_⟩⟩
    · show tb ((1 : Int64) <<< ((nI k).toInt64 &&& 63)) k = true
      rw [tb_sh (by omega), decide_eq_true rfl]
    · have hm : tb ((1 : Int64) <<< ((nI k).toInt64 &&& 63)) m = true := hm
      rw [tb_sh (by omega)] at hm
      have : k = m := of_decide_eq_true hm
      rw [this]; exact cn_refl _
    · have : tb ((1 : Int64) <<< ((nI k).toInt64 &&& 63)) k = true := by rw [tb_sh (by omega), decide_eq_true rfl]
      exact cdn_pos this hk
  · show n - ix (0 : Int32) < FU
    unfold FU; omega

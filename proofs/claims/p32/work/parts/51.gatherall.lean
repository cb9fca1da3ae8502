/-! ===== all fireballs gathered ===== -/
def CL (σ : XS) (q : Nat) : Prop := xi σ 101 q = 0 ∧ xi σ 102 q = 0 ∧ ∀ c, 103 ≤ c → c ≤ 109 → xj σ c q = 0
theorem clear_i (σ : XS) (q : Nat) : GF q σ (f_X4_clear σ q).2 ∧ CL (f_X4_clear σ q).2 q := by
  have e : (f_X4_clear σ q).2 = xJ (xJ (xJ (xJ (xJ (xJ (xJ (xI (xI σ 101 q 0) 102 q 0) 103 q 0) 104 q 0) 105 q 0) 106 q 0) 107 q 0) 108 q 0) 109 q 0 := rfl
  rw [e]
  refine ⟨gf_tr (gf_I (Or.inr (Or.inl rfl))) (gf_tr (gf_I (Or.inr (Or.inr rfl))) (gf_tr (gf_J (by omega)) (gf_tr (gf_J (by omega)) (gf_tr (gf_J (by omega)) (gf_tr (gf_J (by omega)) (gf_tr (gf_J (by omega)) (gf_tr (gf_J (by omega)) (gf_J (by omega))))))))), ?_, ?_, fun c h1 h2 => ?_⟩
  · show xi (xI (xI σ 101 q 0) 102 q 0) 101 q = 0
    rw [xI_z (Or.inl (by decide)), xi_at, if_pos rfl]
  · show xi (xI (xI σ 101 q 0) 102 q 0) 102 q = 0
    rw [xi_at, if_pos rfl]
  · have z : ∀ (b : XS) (a : Nat), (xj b c q = 0 ∨ c = a) → xj (xJ b a q 0) c q = 0 := by
      intro b a h
      by_cases g : c = a
      · subst g; rw [xj_at, if_pos rfl]
      · rw [xJ_z (Or.inl g)]; exact h.resolve_right g
    have hc : c = 103 ∨ c = 104 ∨ c = 105 ∨ c = 106 ∨ c = 107 ∨ c = 108 ∨ c = 109 := by omega
    rcases hc with g | g | g | g | g | g | g
    · exact z _ _ (Or.inl (z _ _ (Or.inl (z _ _ (Or.inl (z _ _ (Or.inl (z _ _ (Or.inl (z _ _ (Or.inl (z _ _ (Or.inr g)))))))))))))
    · exact z _ _ (Or.inl (z _ _ (Or.inl (z _ _ (Or.inl (z _ _ (Or.inl (z _ _ (Or.inl (z _ _ (Or.inr g)))))))))))
    · exact z _ _ (Or.inl (z _ _ (Or.inl (z _ _ (Or.inl (z _ _ (Or.inl (z _ _ (Or.inr g)))))))))
    · exact z _ _ (Or.inl (z _ _ (Or.inl (z _ _ (Or.inl (z _ _ (Or.inr g)))))))
    · exact z _ _ (Or.inl (z _ _ (Or.inl (z _ _ (Or.inr g)))))
    · exact z _ _ (Or.inl (z _ _ (Or.inr g)))
    · exact z _ _ (Or.inr g)
theorem cl_gf {q z : Nat} {a b : XS} (h : CL a z) (g : GF q a b) (hz : z ≠ q) : CL b z := by
  refine ⟨(g.2.1 101 z (by decide) (Or.inr hz)).trans h.1, (g.2.1 102 z (by decide) (Or.inr hz)).trans h.2.1, fun c h1 h2 => (g.2.2.1 c z (by omega) (by omega) (Or.inr hz)).trans (h.2.2 c h1 h2)⟩
theorem cl_jf {z : Nat} {a b : XS} (h : CL a z) (g : JF a b) : CL b z := by
  refine ⟨?_, ?_, fun c h1 h2 => ?_⟩
  · show b.2.1 101 z = 0; rw [g.2.1 101 (by decide)]; exact h.1
  · show b.2.1 102 z = 0; rw [g.2.1 102 (by decide)]; exact h.2.1
  · show b.2.2.1 c z = 0; rw [g.2.2.1 c (by omega) (by omega) (by omega)]; exact h.2.2 c h1 h2
theorem rr_gf {s : Nat → Nat → Int32} {n f q z : Nat} {a b : XS} (h : RR s n f z a) (g : GF q a b) (hz : z ≠ q) : RR s n f z b := by
  have gi : ∀ c, c ≠ 150 → xi b c z = xi a c z := fun c hc => g.2.1 c z hc (Or.inr hz)
  have gj : ∀ c, c ≠ 60 → c ≠ 61 → xj b c z = xj a c z := fun c h1 h2 => g.2.2.1 c z h1 h2 (Or.inr hz)
  unfold RR at h ⊢
  rw [gi 100 (by decide), gi 101 (by decide), gj 106 (by decide) (by decide), gj 107 (by decide) (by decide), gj 108 (by decide) (by decide), gj 109 (by decide) (by decide), gj 110 (by decide) (by decide), gj 111 (by decide) (by decide), gj 112 (by decide) (by decide)]
  exact h
theorem rq_0 {s : Nat → Nat → Int32} {n f q : Nat} {σ : XS} (h : CL σ q) : RQ s n f q 0 σ := by
  obtain ⟨h1, h2, h3⟩ := h
  have e0 : (0 : Int32).toInt = 0 := by decide
  have e1 : (0 : Int64).toInt = 0 := by decide
  refine ⟨fun z => ?_, ?_, ?_, ?_, ?_, ?_, ?_, ?_, ?_, ?_⟩
  · obtain ⟨k, k1, -⟩ := z; exact absurd k1 (Nat.not_lt_zero _)
  · rw [h1, e0]; rfl
  · rw [h2, e0]; rfl
  · rw [h3 103 (by omega) (by omega), e1]; rfl
  · rw [h3 104 (by omega) (by omega), e1]; rfl
  · rw [h3 105 (by omega) (by omega), e1]; rfl
  · rw [h3 106 (by omega) (by omega), e1]; rfl
  · rw [h3 107 (by omega) (by omega), e1]; rfl
  · rw [h3 108 (by omega) (by omega), e1]; rfl
  · rw [h3 109 (by omega) (by omega), e1]; rfl
def RG (σ : XS) (n : Nat) (s : Nat → Nat → Int32) : Prop := MK σ n (JJ s n) ∧ (∀ k, k < n → (jd (JJ s n) k → xi σ 150 (xe σ 2 k) = nI (low (JJ s n) k)) ∧ (¬ jd (JJ s n) k → xi σ 150 (xe σ 2 k) = -1)) ∧ ∀ f, f < 60 → (isF (JJ s n) f → RR s n f (xe σ 3 f) σ) ∧ (¬ isF (JJ s n) f → xi σ 101 (xe σ 3 f) = 0)
theorem mask0 {σ : XS} {n : Nat} {s : Nat → Nat → Int32} (hn : n ≤ 60) (hM : MK σ n (JJ s n)) {k : Nat} (hk : k < n) : (lg_cmp (xj σ 149 (xe σ 2 k)) 0 = 0) ↔ ¬ jd (JJ s n) k := by
  rw [lg_cmp_eq]
  constructor
  · intro h ⟨m, hm⟩
    have := mk_all hn hM hk m
    rw [h, tb_0, hm] at this
    exact Bool.false_ne_true this
  · intro h
    apply tb_ext
    intro i _
    rw [mk_all hn hM hk, tb_0]
    cases z : JJ s n k i with
    | false => rfl
    | true => exact absurd ⟨i, z⟩ h
theorem nI_m1 {k : Nat} (h : k < 60) : ¬ nI k = -1 := by
  have : ∀ k, k < 60 → ¬ nI k = -1 := by decide +kernel
  exact this k h
theorem gatherF_i {σ : XS} {x n : Nat} {s : Nat → Nat → Int32} (h : SX σ x n s) (hs : Sok s n) (hR : Lst σ 3 5 60) : of_X10_gatherFireballs σ x ∧ XF σ (f_X10_gatherFireballs σ x).2 ∧ RG (f_X10_gatherFireballs σ x).2 n s := by
  have hn := h.1
  have hG := gr_JJ s n
  obtain ⟨hr1, hr2, hr3⟩ := hR
  -- rows cleared
  have hl1 := itr_for (f := s_X10_gatherFireballs_2 x) (o := os_X10_gatherFireballs_2 x) (fun i (b : XS) => (nI i, b)) (fun i b => XF σ b ∧ ∀ f, f < i → CL b (xe σ 3 f)) (n := 60) (by
    intro i b hi hP
    obtain ⟨p1, p2⟩ := hP
    have c1 : ¬ nI 60 ≤ nI i := by rw [nI_leI (by omega) (by omega)]; omega
    have e2 : ix (nI i) = i := clamp_nI (by omega)
    have en : xn b 3 = 60 := by show b.2.2.2.2.1 3 = 60; rw [p1.2.2]; exact hr1
    have ex : xe b 3 i = xe σ 3 i := by show b.2.2.2.2.2 3 i = σ.2.2.2.2.2 3 i; rw [p1.2.2]
    have k5 : xk b (xe σ 3 i) = 5 := by show b.1 (xe σ 3 i) = 5; rw [p1.1]; exact hr2 i hi
    obtain ⟨g1, g2⟩ := clear_i b (xe σ 3 i)
    show ob_X10_gatherFireballs_2 x (nI i) b ∧ ∃ b', b_X10_gatherFireballs_2 x (nI i) b = (true, (nI (i + 1), b')) ∧ _
    unfold ob_X10_gatherFireballs_2 b_X10_gatherFireballs_2 f_X10_gatherFireballs_l2_31
    rw [en, e2, ex, if_neg c1, nI_succ i]
    refine ⟨⟨fun z => absurd z c1, fun _ => ⟨nI_in hi (by omega), k5, ⟨k5, trivial⟩, trivial⟩⟩, _, rfl, xf_tr p1 (xf_gf g1), fun f hf => ?_⟩
    by_cases c : f = i
    · subst c; exact g2
    · exact cl_gf (p2 f (by omega)) g1 (fun z => c (hr3 f i (by omega) hi z))) (by
    intro b hP
    have c1 : nI 60 ≤ nI 60 := Int32.le_refl _
    have en : xn b 3 = 60 := by show b.2.2.2.2.1 3 = 60; rw [hP.1.2.2]; exact hr1
    show ob_X10_gatherFireballs_2 x (nI 60) b ∧ b_X10_gatherFireballs_2 x (nI 60) b = _
    unfold ob_X10_gatherFireballs_2 b_X10_gatherFireballs_2
    rw [en, if_pos c1]
    exact ⟨⟨fun _ => trivial, fun z => absurd c1 z⟩, rfl⟩) FU 0 σ (by omega) (by unfold FU; omega) ⟨xf_refl σ, fun f hf => absurd hf (Nat.not_lt_zero _)⟩
  obtain ⟨a1, σ1, a2, a3, a4⟩ := hl1
  have hS1 := sx_f h a3
  -- joined
  obtain ⟨j1, j2, j3, j4⟩ := joinS_i hS1 hs
  obtain ⟨σ2, e2⟩ : ∃ t, (f_X10_joinSightings σ1 x).2 = t := ⟨_, rfl⟩
  rw [e2] at j2 j3 j4
  have xf2 := xf_tr a3 (xf_jf j2)
  have hS2 := sx_f h xf2
  have ex2 : ∀ j i, xe σ2 j i = xe σ j i := fun j i => by show σ2.2.2.2.2.2 j i = σ.2.2.2.2.2 j i; rw [xf2.2.2]
  have ex1 : ∀ j i, xe σ1 j i = xe σ j i := fun j i => by show σ1.2.2.2.2.2 j i = σ.2.2.2.2.2 j i; rw [a3.2.2]
  have cl2 : ∀ f, f < 60 → CL σ2 (xe σ 3 f) := fun f hf => cl_jf (a4 f hf) j2
  -- gathered
  have hl2 := itr_for (f := s_X10_gatherFireballs_43 x) (o := os_X10_gatherFireballs_43 x) (fun i (b : XS) => (nI i, b)) (fun i b => XF σ b ∧ MK b n (JJ s n) ∧ (∀ k, k < n → (jd (JJ s n) k → low (JJ s n) k < i → xi b 150 (xe σ 2 k) = nI (low (JJ s n) k)) ∧ (¬ (jd (JJ s n) k ∧ low (JJ s n) k < i) → xi b 150 (xe σ 2 k) = -1)) ∧ ∀ f, f < 60 → (isF (JJ s n) f → f < i → RR s n f (xe σ 3 f) b) ∧ (¬ (isF (JJ s n) f ∧ f < i) → CL b (xe σ 3 f))) (n := n) (by
    intro i b hi hP
    obtain ⟨p1, p2, p3, p4⟩ := hP
    have hS := sx_f h p1
    have ex : ∀ j k, xe b j k = xe σ j k := fun j k => by show b.2.2.2.2.2 j k = σ.2.2.2.2.2 j k; rw [p1.2.2]
    have en3 : xn b 3 = 60 := by show b.2.2.2.2.1 3 = 60; rw [p1.2.2]; exact hr1
    have c1 : ¬ nI n ≤ nI i := by rw [nI_leI (by omega) (by omega)]; omega
    have c3 : ¬ nI 60 ≤ nI i := by rw [nI_leI (by omega) (by omega)]; omega
    have e2 : ix (nI i) = i := clamp_nI (by omega)
    have i7 : xk b (xe σ 2 i) = 7 := by have := (hS.2.2.2.2.1 i hi).1; rw [ex] at this; exact this
    have r5 : xk b (xe σ 3 i) = 5 := by show b.1 (xe σ 3 i) = 5; rw [p1.1]; exact hr2 i (by omega)
    have hm0 := mask0 hn p2 hi
    rw [ex] at hm0
    show ob_X10_gatherFireballs_43 x (nI i) b ∧ ∃ b', b_X10_gatherFireballs_43 x (nI i) b = (true, (nI (i + 1), b')) ∧ _
    unfold ob_X10_gatherFireballs_43 b_X10_gatherFireballs_43 f_X10_gatherFireballs_l43_118
    rw [hS.2.1, en3, e2, ex, ex, if_neg c1, if_neg c3, nI_succ i]
    -- where i is no fireball, nothing changes
    have stay : ¬ isF (JJ s n) i → (∀ k, k < n → (jd (JJ s n) k → low (JJ s n) k < i + 1 → xi b 150 (xe σ 2 k) = nI (low (JJ s n) k)) ∧ (¬ (jd (JJ s n) k ∧ low (JJ s n) k < i + 1) → xi b 150 (xe σ 2 k) = -1)) ∧ ∀ f, f < 60 → (isF (JJ s n) f → f < i + 1 → RR s n f (xe σ 3 f) b) ∧ (¬ (isF (JJ s n) f ∧ f < i + 1) → CL b (xe σ 3 f)) := by
      intro hF
      refine ⟨fun k hk => ⟨fun h1 h2 => ?_, fun h1 => ?_⟩, fun f hf => ⟨fun h1 h2 => ?_, fun h1 => ?_⟩⟩
      · have hne : low (JJ s n) k ≠ i := fun z => hF (z ▸ jd_F hG h1)
        exact (p3 k hk).1 h1 (by omega)
      · exact (p3 k hk).2 (fun z => h1 ⟨z.1, by omega⟩)
      · have hne : f ≠ i := fun z => hF (z ▸ h1)
        exact (p4 f hf).1 h1 (by omega)
      · exact (p4 f hf).2 (fun z => h1 ⟨z.1, by omega⟩)
    by_cases d1 : jd (JJ s n) i
    · have z1 : ¬ lg_cmp (xj b 149 (xe σ 2 i)) 0 = 0 := fun z => hm0.mp z d1
      rw [if_neg z1]
      by_cases d2 : low (JJ s n) i = i
      · have hF : isF (JJ s n) i := ⟨d1, d2⟩
        have z2 : xi b 150 (xe σ 2 i) = -1 := (p3 i hi).2 (fun z => by have := z.2; omega)
        rw [if_pos z2]
        have hcl := (p4 i (by omega)).2 (fun z => by have := z.2; omega)
        obtain ⟨t1, t2, t3, t4⟩ := gatherInto_i hS hs p2 hF r5 (rq_0 hcl)
        refine ⟨⟨fun z => absurd z c1, fun _ => ⟨nI_in hi (by omega), i7, fun z => absurd z z1, fun _ => ⟨fun _ => ⟨fun z => absurd z c3, fun _ => ⟨nI_in (by omega) (by omega), r5, t1, trivial⟩⟩, fun z => absurd z2 z⟩⟩⟩, _, rfl, xf_tr p1 (xf_gf t2), ?_, fun k hk => ?_, fun f hf => ?_⟩
        · intro k hk m hm
          rw [gf_xe t2, t2.2.2.1 149 _ (by decide) (by decide) (Or.inl (Or.inr (by decide)))]
          exact p2 k hk m hm
        · have t4k := t4 k hk
          rw [ex] at t4k
          rw [t4k]
          by_cases c : low (JJ s n) k = i
          · rw [if_pos c, c]
            exact ⟨fun _ _ => rfl, fun z => absurd ⟨isF_m hF c, by omega⟩ z⟩
          · rw [if_neg c]
            exact ⟨fun h1 h2 => (p3 k hk).1 h1 (by omega), fun h1 => (p3 k hk).2 (fun z => h1 ⟨z.1, by omega⟩)⟩
        · by_cases c : f = i
          · subst c
            exact ⟨fun _ _ => t3, fun z => absurd ⟨hF, by omega⟩ z⟩
          · have hne : xe σ 3 f ≠ xe σ 3 i := fun z => c (hr3 f i hf (by omega) z)
            exact ⟨fun h1 h2 => rr_gf ((p4 f hf).1 h1 (by omega)) t2 hne, fun h1 => cl_gf ((p4 f hf).2 (fun z => h1 ⟨z.1, by omega⟩)) t2 hne⟩
      · have hlt : low (JJ s n) i < i := by have := low_le (JJ s n) i; omega
        have z2 : ¬ xi b 150 (xe σ 2 i) = -1 := by
          rw [(p3 i hi).1 d1 hlt]; exact nI_m1 (by omega)
        rw [if_neg z2]
        refine ⟨⟨fun z => absurd z c1, fun _ => ⟨nI_in hi (by omega), i7, fun z => absurd z z1, fun _ => ⟨fun z => absurd z z2, fun _ => trivial⟩⟩⟩, b, rfl, p1, p2, stay (fun z => d2 z.2)⟩
    · have z1 := hm0.mpr d1
      rw [if_pos z1]
      exact ⟨⟨fun z => absurd z c1, fun _ => ⟨nI_in hi (by omega), i7, fun _ => trivial, fun z => absurd z1 z⟩⟩, b, rfl, p1, p2, stay (fun z => d1 z.1)⟩) (by
    intro b hP
    have hS := sx_f h hP.1
    have c1 : nI n ≤ nI n := Int32.le_refl _
    show ob_X10_gatherFireballs_43 x (nI n) b ∧ b_X10_gatherFireballs_43 x (nI n) b = _
    unfold ob_X10_gatherFireballs_43 b_X10_gatherFireballs_43
    rw [hS.2.1, if_pos c1]
    exact ⟨⟨fun _ => trivial, fun z => absurd c1 z⟩, rfl⟩) FU 0 σ2 (by omega) (by unfold FU; omega) ⟨xf2, j3, fun k hk => ⟨fun _ z => absurd z (Nat.not_lt_zero _), fun _ => by have := j4 k hk; rw [ex1] at this; exact this⟩, fun f hf => ⟨fun _ z => absurd z (Nat.not_lt_zero _), fun _ => cl2 f hf⟩⟩
  obtain ⟨b1, σ3, b2, b3, b4, b5, b6⟩ := hl2
  have a2 : itr (s_X10_gatherFireballs_2 x) FU (0, σ) = (nI 60, σ1) := a2
  have b2 : itr (s_X10_gatherFireballs_43 x) FU (0, σ2) = (nI n, σ3) := b2
  have e : (f_X10_gatherFireballs σ x).2 = σ3 := by
    show (itr (s_X10_gatherFireballs_43 x) FU (0, (f_X10_joinSightings (itr (s_X10_gatherFireballs_2 x) FU (0, σ)).2 x).2)).2 = σ3
    rw [a2]
    show (itr (s_X10_gatherFireballs_43 x) FU (0, (f_X10_joinSightings σ1 x).2)).2 = σ3
    rw [e2, b2]
  rw [e]
  refine ⟨⟨a1, ?_⟩, b3, b4, fun k hk => ?_, fun f hf => ?_⟩
  · show of_X10_gatherFireballs_37 σ x (itr (s_X10_gatherFireballs_2 x) FU (0, σ)).2
    rw [a2]
    refine ⟨j1, ?_⟩
    show of_X10_gatherFireballs_41 σ x (f_X10_joinSightings σ1 x).2
    rw [e2]
    exact ⟨b1, trivial⟩
  · have ex3 : xe σ3 2 k = xe σ 2 k := by show σ3.2.2.2.2.2 2 k = σ.2.2.2.2.2 2 k; rw [b3.2.2]
    rw [ex3]
    have hlt : low (JJ s n) k < n := by have := low_le (JJ s n) k; omega
    exact ⟨fun z => (b5 k hk).1 z hlt, fun z => (b5 k hk).2 (fun y => z y.1)⟩
  · have ex3 : xe σ3 3 f = xe σ 3 f := by show σ3.2.2.2.2.2 3 f = σ.2.2.2.2.2 3 f; rw [b3.2.2]
    rw [ex3]
    exact ⟨fun z => (b6 f hf).1 z ((hG.2 f _ z.1.choose_spec).1), fun z => ((b6 f hf).2 (fun y => z y.1)).1⟩

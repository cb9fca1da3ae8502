/-! ===== chance ===== -/
theorem cell_or (a b : Int32) : (rng 0 99 a ∧ rng 0 99 b ∧ f_X11_isCell a b = 1 ∧ f_X10_requireCell a b = .ok ()) ∨ (f_X11_isCell a b = 0 ∧ f_X10_requireCell a b = .error 1) := by
  unfold f_X11_isCell f_X10_requireCell
  rcases in_or a 0 99 with ⟨a1, a2, a3⟩ | ⟨a1, a2, a3⟩
  · rw [a2, a3, if_neg i_1ne0, exb_i]
    rcases in_or b 0 99 with ⟨b1, b2, b3⟩ | ⟨b1, b2, b3⟩
    · rw [b2, b3, if_neg i_1ne0, exb_i]
      exact Or.inl ⟨a1, b1, rfl, rfl⟩
    · rw [b2, b3, if_pos rfl, exb_e]
      exact Or.inr ⟨rfl, rfl⟩
  · rw [a2, a3, if_pos rfl, exb_e]
    exact Or.inr ⟨rfl, rfl⟩
theorem chance_r {σ : XS} {x : Nat} {μ μ' : MS} {n0 n1 n2 n4 n5 n6 f : Nat} {a b : Int32} (h : Rep0 σ x μ n0 n1 n2 n4 n5 n6) (hG : RG σ n2 (sdt μ n2)) (hms : MS1 μ' n2 (sdt μ n2)) (hfr : Fr μ μ') (hf : isF (JJ (sdt μ n2) n2) f) (ra : rng 0 99 a) (rb : rng 0 99 b) : of_X10_chanceIn σ x (xe σ 3 f) (nI f) a b ∧ of_X11_chanceOf μ' (nI f) a b ∧ ∃ τ μ2 V, f_X10_chanceIn σ x (xe σ 3 f) (nI f) a b = (V, τ) ∧ f_X11_chanceOf μ' (nI f) a b = (V, μ2) ∧ SC σ τ ∧ MF μ' μ2 := by
  have e : sdt μ' n2 = sdt μ n2 := sdt_fr hfr
  exact chance_i (rep0_fr h hfr) (by rw [e]; exact hG) (by rw [e]; exact hms) (by rw [e]; exact hf) ra rb
theorem br_chance : Br_chance Rep := by
  intro σ x μ p0 p1 p2 hh
  obtain ⟨n0, n1, n2, n4, n5, n6, h, hG⟩ := id hh
  have h60 := h.2.2.2.2.1.1
  have h3 := h.2.2.2.2.2.2.2.2.2.2.2.1
  have hs := (rep_sx h).2
  have d1 : cd_chance 3 = 1 := by decide
  have d2 : cd_chance 1 = 2 := by decide
  have i1 : ¬ (1 : Int32) ≤ 0 := by decide
  have i2 : ¬ (2 : Int32) ≤ 0 := by decide
  obtain ⟨oS, hms, hfr, ht⟩ := spr_ms h
  obtain ⟨e1, e3⟩ := fb_ex (x := x) p0 h3 hG hs h60
  obtain ⟨o1, o3⟩ := isf_i hms p0
  obtain ⟨μs, eμ⟩ : ∃ z, f_X11_spreads μ = z := ⟨_, rfl⟩
  have hM0 : f_X11_chance μ p0 p1 p2 = f_X11_chance_4 μ p0 p1 p2 μs := by unfold f_X11_chance; rw [eμ]
  have hO0 : of_X11_chance_4 μ p0 p1 p2 μs → of_X11_chance μ p0 p1 p2 := fun z => ⟨oS, by rw [eμ]; exact z⟩
  rw [eμ] at hms hfr ht o1 o3
  have t30 : ∀ t, ¬ t ≤ (0 : Int32) → f_X11_chance_30 μ p0 p1 p2 t μs = (0, mI μs 0 0 t) ∧ of_X11_chance_30 μ p0 p1 p2 t μs := fun t ht => ⟨if_neg ht, fun z => absurd z ht, fun _ => trivial⟩
  rcases e3 with ⟨f, hf, hisf, rfl, hF, hK⟩ | ⟨hF, hno⟩
  · rcases o3 with ⟨-, -, -, -, hI⟩ | ⟨-, hno⟩
    · have hm1 : ¬ f_X11_isFireball μs (nI f) = 0 := by rw [hI]; exact i_1ne0
      rcases cell_or p1 p2 with ⟨a1, a2, a3, a4⟩ | ⟨a3, a4⟩
      · have hm2 : ¬ f_X11_isCell p1 p2 = 0 := by rw [a3]; exact i_1ne0
        obtain ⟨c1, c2, τ, μ2, V, c3, c4, c5, c6⟩ := chance_r h hG (ms_mf_thr (t := 0) hms) (fr_thr2 hfr 0) hisf a1 a2
        have hFo : ∀ nq, FL_chance σ x (nI f) p1 p2 nq = .ok (V, τ) := by
          intro nq
          show f_X10_chance σ x (nI f) p1 p2 = _
          unfold f_X10_chance
          rw [hF, exb_i, a4, exb_i, c3]
        have hMo : f_X11_chance μ (nI f) p1 p2 = (V, μ2) := by
          rw [hM0]
          unfold f_X11_chance_4
          rw [if_neg hm1, if_neg hm2]
          unfold f_X11_chance_30
          rw [if_pos (by decide), c4]
        have ht' : mi μ2 0 0 = 0 := by
          show μ2.1 0 0 = 0
          rw [c6 0 (by decide) (by decide)]
          rfl
        refine ⟨?_, no_er hFo, hO0 ⟨o1, fun z => absurd z hm1, fun _ => ⟨fun z => absurd z hm2, fun _ => ⟨fun _ => ⟨c2, trivial⟩, fun _ => trivial⟩⟩⟩, fun nq g _ _ => cl_oL (hFo nq) hMo ht' (sc_rep c5 (rep_fr hh (fr_tr (fr_thr2 hfr 0) (fr_mf c6)))) g⟩
        unfold of_X10_chance
        rw [hF, exo_i, a4, exo_i]
        exact ⟨e1, c1, trivial⟩
      · have hFe : ∀ nq, FL_chance σ x (nI f) p1 p2 nq = .error 1 := fun nq => by
          show f_X10_chance σ x (nI f) p1 p2 = _
          unfold f_X10_chance
          rw [hF, exb_i, a4, exb_e]
        have hMe : f_X11_chance μ (nI f) p1 p2 = (0, mI μs 0 0 2) := by
          rw [hM0]
          unfold f_X11_chance_4
          rw [if_neg hm1, if_pos a3]
          exact (t30 2 i2).1
        refine ⟨?_, is_er hFe (Or.inr rfl), hO0 ⟨o1, fun z => absurd z hm1, fun _ => ⟨fun _ => (t30 2 i2).2, fun z => absurd a3 z⟩⟩, fun nq g _ _ => cl_eL hFe hMe hfr d2 (by decide) hh nq g⟩
        unfold of_X10_chance
        rw [hF, exo_i, a4, exo_e]
        exact ⟨e1, trivial⟩
    · exact absurd hisf (hno f rfl (by omega))
  · rcases o3 with ⟨f, hf, hisf, rfl, hI⟩ | ⟨hI, -⟩
    · exact absurd hisf (hno f rfl (by omega))
    · have hFe : ∀ nq, FL_chance σ x p0 p1 p2 nq = .error 3 := fun nq => by
        show f_X10_chance σ x p0 p1 p2 = _
        unfold f_X10_chance
        rw [hF, exb_e]
      have hMe : f_X11_chance μ p0 p1 p2 = (0, mI μs 0 0 1) := by
        rw [hM0]
        unfold f_X11_chance_4
        rw [if_pos hI]
        exact (t30 1 i1).1
      refine ⟨?_, is_er hFe (Or.inl rfl), hO0 ⟨o1, fun _ => (t30 1 i1).2, fun z => absurd hI z⟩, fun nq g _ _ => cl_eL hFe hMe hfr d1 (by decide) hh nq g⟩
      unfold of_X10_chance
      rw [hF, exo_e]
      exact ⟨e1, trivial⟩
/-! ===== fall ===== -/
theorem lock {α γ β : Type} {f : α → Bool × α} {o : α → Prop} {g : γ → Bool × γ} {u : γ → Prop} (pk : Nat → β → α) (pm : Nat → β → γ) (P : Nat → β → Prop) : ∀ n, (∀ k b, k < n → P k b → o (pk k b) ∧ u (pm k b) ∧ ∃ b', f (pk k b) = (true, pk (k + 1) b') ∧ g (pm k b) = (true, pm (k + 1) b') ∧ P (k + 1) b') → ∀ b, P 0 b → ∃ b', P n b' ∧ ∀ m, itr f (m + n) (pk 0 b) = itr f m (pk n b') ∧ (ito f o m (pk n b') → ito f o (m + n) (pk 0 b)) ∧ itr g (m + n) (pm 0 b) = itr g m (pm n b') ∧ (ito g u m (pm n b') → ito g u (m + n) (pm 0 b))
  | 0, _, b, hb => ⟨b, hb, fun m => ⟨rfl, fun z => z, rfl, fun z => z⟩⟩
  | n + 1, h, b, hb => by
    obtain ⟨b1, p1, q⟩ := lock (f := f) (o := o) (g := g) (u := u) pk pm P n (fun k b hk hP => h k b (by omega) hP) b hb
    obtain ⟨o1, u1, b2, f1, g1, p2⟩ := h n b1 (by omega) p1
    refine ⟨b2, p2, fun m => ?_⟩
    have e : m + (n + 1) = (m + 1) + n := by omega
    obtain ⟨q1, q2, q3, q4⟩ := q (m + 1)
    rw [e]
    exact ⟨q1.trans (it_t (o := o) f1 m).1, fun z => q2 ((it_t f1 m).2 o1 z), q3.trans (it_t (o := u) g1 m).1, fun z => q4 ((it_t g1 m).2 u1 z)⟩
theorem fo_i {σ : XS} {x : Nat} {μ : MS} {n0 n1 n2 n4 n5 n6 j : Nat} (h : Rep0 σ x μ n0 n1 n2 n4 n5 n6) (hG : RG σ n2 (sdt μ n2)) (hj : j < n6) : of_X10_fallOf σ x (xe σ 6 j) ∧ of_X11_fallOf μ (nI j) ∧ ∃ τ μ' V, f_X10_fallOf σ x (xe σ 6 j) = (V, τ) ∧ f_X11_fallOf μ (nI j) = (V, μ') ∧ SC σ τ ∧ Fr μ μ' ∧ mi μ' 0 0 = mi μ 0 0 := by
  have hs := (rep_sx h).2
  have h60 := h.2.2.2.2.1.1
  have h40 := h.2.2.2.2.2.2.2.1.1
  obtain ⟨oS, hms, hfr, ht⟩ := spr_ms h
  obtain ⟨μs, eμ⟩ : ∃ z, f_X11_spreads μ = z := ⟨_, rfl⟩
  rw [eμ] at hms hfr ht
  have hixj : ix (nI j) = j := clamp_nI (by omega)
  have vj : vp_in (nI j) 40 := nI_in (by omega) (by decide)
  obtain ⟨b', hP, hm⟩ := lock (f := s_X10_fallOf_7 x (xe σ 6 j)) (o := os_X10_fallOf_7 x (xe σ 6 j)) (g := s_X11_fallOf_11 (nI j)) (u := os_X11_fallOf_11 (nI j)) (fun k (b : Int32 × Int64 × XS × MS) => (b.1, b.2.1, nI k, b.2.2.1)) (fun k b => (b.1, b.2.1, nI k, b.2.2.2)) (fun _ b => SC σ b.2.2.1 ∧ MF μs b.2.2.2) n2 (by
    rintro k ⟨v, V, ρ, ν⟩ hk ⟨g1, g2⟩
    have g1 : SC σ ρ := g1
    have g2 : MF μs ν := g2
    have hfr2 : Fr μ ν := fr_tr hfr (fr_mf g2)
    have h' := sc_rep0 g1 (rep0_fr h hfr2)
    have hG' := sc_rg g1 hG
    have hms' := ms_mf hms g2
    have hst := h'.2.2.2.2.2.2.2.1
    obtain ⟨hx3, hk3, -⟩ := h'.2.2.2.2.2.2.2.2.2.2.2.1
    have exe : ∀ a i, xe ρ a i = xe σ a i := fun a i => congrArg (fun z => z.2.2 a i) g1.2.2.2
    have h13 : mi ν 13 0 = nI n2 := hms'.1.2.1
    have hix : ix (nI k) = k := clamp_nI (by omega)
    have c1 : ¬ nI 60 ≤ nI k := by rw [nI_leI (by omega) (by omega)]; omega
    have c2 : ¬ nI n2 ≤ nI k := by rw [nI_leI (by omega) (by omega)]; omega
    have v60 : vp_in (nI k) 60 := nI_in (by omega) (by decide)
    have kk := hk3 k (by omega)
    obtain ⟨s1, s2, s3, s4, -⟩ := hst.2.2.2.2.2 j hj
    have kj := hst.2.2.2.2.1.2.1 j hj
    obtain ⟨o1, o2⟩ := isf_i hms' (nI k)
    obtain ⟨r1, r2⟩ := hG'.2.2 k (by omega)
    have e15 : mi ν 15 k = sdt μ n2 k 1 := (sdt_at hms'.1 hk).2.1
    rw [exe] at kk r1 r2 s1 s2 s3 s4 kj
    show ob_X10_fallOf_7 x (xe σ 6 j) v V (nI k) ρ ∧ ob_X11_fallOf_11 (nI j) v V (nI k) ν ∧ ∃ b' : Int32 × Int64 × XS × MS, b_X10_fallOf_7 x (xe σ 6 j) v V (nI k) ρ = (true, (b'.1, b'.2.1, nI (k + 1), b'.2.2.1)) ∧ b_X11_fallOf_11 (nI j) v V (nI k) ν = (true, (b'.1, b'.2.1, nI (k + 1), b'.2.2.2)) ∧ SC σ b'.2.2.1 ∧ MF μs b'.2.2.2
    unfold ob_X10_fallOf_7 ob_X11_fallOf_11 b_X10_fallOf_7 b_X11_fallOf_11 f_X10_fallOf_l7_88 f_X11_fallOf_l11_93
    rw [hx3, h13, hix, exe, if_neg c1, if_neg c2, s4, e15, hixj, s2, s3]
    unfold f_X4_exists of_X4_exists
    rcases o2 with ⟨f, hf, d, e, o3⟩ | ⟨o3, o4⟩
    · have : k = f := (nI_eq (by omega) (by omega)).mp e
      subst this
      obtain ⟨p1, p2, -⟩ := z_pos hs h60 d
      obtain ⟨r3, r4, -⟩ := r1 d
      have q2 : ¬ xi ρ 101 (xe σ 3 k) ≤ 0 := by
        rw [Int32.le_iff_toInt_le, r4]
        have : (0 : Int32).toInt = 0 := rfl
        omega
      rw [o3, if_neg q2, if_neg i_1ne0, if_neg i_1ne0, r3]
      by_cases cn : mi ν 49 j < sdt μ n2 k 1
      · rw [if_pos cn, if_pos cn]
        exact ⟨⟨fun _ => trivial, fun _ => ⟨v60, kk, ⟨kk, trivial⟩, fun z => absurd z i_1ne0, fun _ => ⟨kj, fun _ => trivial, fun z => absurd cn z⟩⟩⟩, ⟨fun _ => trivial, fun _ => ⟨o1, fun z => absurd z i_1ne0, fun _ => ⟨v60, vj, fun _ => trivial, fun z => absurd cn z⟩⟩⟩, (v, V, ρ, ν), by rw [nI_1], by rw [nI_1], g1, g2⟩
      · obtain ⟨-, -, -, -, -, -, -, -, -, -, -, t1, t2, -⟩ := hst.2.2.2.2.2 j hj
        obtain ⟨w1, w2, τ, μ2, U, w3, w4, w5, w6⟩ := chance_r (μ' := ν) (sc_rep0 g1 h) (sc_rg g1 hG) hms' hfr2 d t1 t2
        rw [exe] at w1 w3
        rw [if_neg cn, if_neg cn, w3, w4]
        unfold f_X10_fallOf_l7_73 f_X11_fallOf_l11_63 f_X11_fallOf_l11_78 f_X11_fallOf_l11_92 f_X10_fallOf_l7_88 f_X11_fallOf_l11_93
        refine ⟨⟨fun _ => trivial, fun _ => ⟨v60, kk, ⟨kk, trivial⟩, fun z => absurd z i_1ne0, fun _ => ⟨kj, fun z => absurd z cn, fun _ => ⟨w1, trivial⟩⟩⟩⟩, ⟨fun _ => trivial, fun _ => ⟨o1, fun z => absurd z i_1ne0, fun _ => ⟨v60, vj, fun z => absurd z cn, fun _ => ⟨vj, vj, w2, trivial⟩⟩⟩⟩, ?_⟩
        by_cases cc : lg_cmp U V ≤ 0
        · rw [if_pos cc, if_pos cc, if_pos cc]
          exact ⟨(v, V, τ, μ2), by rw [nI_1], by rw [nI_1], sc_tr g1 w5, mf_tr g2 w6⟩
        · rw [if_neg cc, if_neg cc, if_neg cc]
          exact ⟨(nI k, U, τ, μ2), by rw [nI_1], by rw [nI_1], sc_tr g1 w5, mf_tr g2 w6⟩
    · have q2 : xi ρ 101 (xe σ 3 k) ≤ 0 := by rw [r2 (o4 k rfl (by omega))]; exact Int32.le_refl _
      rw [o3, if_pos q2, if_pos rfl, if_pos rfl]
      exact ⟨⟨fun _ => trivial, fun _ => ⟨v60, kk, ⟨kk, trivial⟩, fun _ => trivial, fun z => absurd rfl z⟩⟩, ⟨fun _ => trivial, fun _ => ⟨o1, fun _ => trivial, fun z => absurd rfl z⟩⟩, (v, V, ρ, ν), by rw [nI_1], by rw [nI_1], g1, g2⟩) (-1, 0, σ, μs) ⟨sc_refl σ, mf_refl μs⟩
  obtain ⟨v, V, ρ, ν⟩ := b'
  obtain ⟨g1, g2⟩ := hP
  have g1 : SC σ ρ := g1
  have g2 : MF μs ν := g2
  have exe : ∀ a i, xe ρ a i = xe σ a i := fun a i => congrArg (fun z => z.2.2 a i) g1.2.2.2
  have hG' := sc_rg g1 hG
  obtain ⟨hx3, hk3, -⟩ := (sc_rep0 g1 h).2.2.2.2.2.2.2.2.2.2.2.1
  have h13 : mi ν 13 0 = nI n2 := (ms_mf hms g2).1.2.1
  -- the class goes on to 60
  have rest := itr_for (f := s_X10_fallOf_7 x (xe σ 6 j)) (o := os_X10_fallOf_7 x (xe σ 6 j)) (fun k (b : Unit) => (v, V, nI k, ρ)) (fun k _ => n2 ≤ k) (n := 60) (by
    intro k _ hk hn
    have hix : ix (nI k) = k := clamp_nI (by omega)
    have c1 : ¬ nI 60 ≤ nI k := by rw [nI_leI (by omega) (by omega)]; omega
    have v60 : vp_in (nI k) 60 := nI_in (by omega) (by decide)
    have kk := hk3 k (by omega)
    obtain ⟨-, r2⟩ := hG'.2.2 k (by omega)
    have nf : ¬ isF (JJ (sdt μ n2) n2) k := fun z => by
      obtain ⟨⟨m, hm⟩, -⟩ := z
      have := ((gr_JJ (sdt μ n2) n2).2 k m hm).1
      omega
    have r2 := r2 nf
    rw [exe] at kk r2
    have q2 : xi ρ 101 (xe σ 3 k) ≤ 0 := by rw [r2]; exact Int32.le_refl _
    show ob_X10_fallOf_7 x (xe σ 6 j) v V (nI k) ρ ∧ ∃ b' : Unit, b_X10_fallOf_7 x (xe σ 6 j) v V (nI k) ρ = (true, (v, V, nI (k + 1), ρ)) ∧ n2 ≤ k + 1
    unfold ob_X10_fallOf_7 b_X10_fallOf_7 f_X10_fallOf_l7_88 f_X4_exists of_X4_exists
    rw [hx3, hix, exe, if_neg c1, if_pos q2, if_pos rfl, nI_1]
    exact ⟨⟨fun _ => trivial, fun _ => ⟨v60, kk, ⟨kk, trivial⟩, fun _ => trivial, fun z => absurd rfl z⟩⟩, (), rfl, by omega⟩) (by
    intro _ _
    show ob_X10_fallOf_7 x (xe σ 6 j) v V (nI 60) ρ ∧ b_X10_fallOf_7 x (xe σ 6 j) v V (nI 60) ρ = _
    unfold ob_X10_fallOf_7 b_X10_fallOf_7
    rw [hx3, if_pos (Int32.le_refl _)]
    exact ⟨⟨fun _ => trivial, fun z => absurd (Int32.le_refl _) z⟩, rfl⟩) (FU - n2) n2 () h60 (by show 60 - n2 < 100000 - n2; omega) (Nat.le_refl _)
  obtain ⟨x1, -, x2, -⟩ := rest
  have eFU : (FU - n2) + n2 = FU := by show (100000 - n2) + n2 = 100000; omega
  obtain ⟨q1, q2, q3, q4⟩ := hm (FU - n2)
  rw [eFU] at q1 q2 q3 q4
  have q1 : itr (s_X10_fallOf_7 x (xe σ 6 j)) FU (-1, 0, 0, σ) = (v, V, nI 60, ρ) := q1.trans x2
  have q2 : ito (s_X10_fallOf_7 x (xe σ 6 j)) (os_X10_fallOf_7 x (xe σ 6 j)) FU (-1, 0, 0, σ) := q2 x1
  have fm : s_X11_fallOf_11 (nI j) (v, V, nI n2, ν) = (false, (v, V, nI n2, ν)) := by
    show b_X11_fallOf_11 (nI j) v V (nI n2) ν = _
    unfold b_X11_fallOf_11
    rw [h13, if_pos (Int32.le_refl _)]
  have om : os_X11_fallOf_11 (nI j) (v, V, nI n2, ν) := by
    show ob_X11_fallOf_11 (nI j) v V (nI n2) ν
    unfold ob_X11_fallOf_11
    rw [h13]
    exact ⟨fun _ => trivial, fun z => absurd (Int32.le_refl _) z⟩
  obtain ⟨m', em'⟩ : ∃ m', FU - n2 = m' + 1 := ⟨99999 - n2, by show 100000 - n2 = _; omega⟩
  rw [em'] at q3 q4
  have q3 : itr (s_X11_fallOf_11 (nI j)) FU (-1, 0, 0, μs) = (v, V, nI n2, ν) := q3.trans (it_f (o := os_X11_fallOf_11 (nI j)) fm m').1
  have q4 : ito (s_X11_fallOf_11 (nI j)) (os_X11_fallOf_11 (nI j)) FU (-1, 0, 0, μs) := q4 ((it_f fm m').2 om)
  refine ⟨⟨q2, trivial⟩, ⟨oS, by rw [eμ]; exact ⟨q4, trivial⟩⟩, ρ, ν, v, ?_, ?_, g1, fr_tr hfr (fr_mf g2), ?_⟩
  · unfold f_X10_fallOf f_X10_fallOf_7 f_X10_fallOf_94
    rw [q1]
  · unfold f_X11_fallOf
    rw [eμ]
    unfold f_X11_fallOf_4 f_X11_fallOf_11 f_X11_fallOf_99
    rw [q3]
  · show ν.1 0 0 = μ.1 0 0
    rw [g2 0 (by decide) (by decide)]
    exact ht
theorem br_fall : Br_fall Rep := by
  intro σ x μ p0 hh
  obtain ⟨n0, n1, n2, n4, n5, n6, h, hG⟩ := id hh
  have hst := h.2.2.2.2.2.2.2.1
  have d1 : cd_fall 3 = 1 := by decide
  have i1 : ¬ (1 : Int32) ≤ 0 := by decide
  obtain ⟨e1, e2, e3⟩ := st_ex (x := x) p0 hst
  rcases e3 with ⟨j, hj, rfl, hix, h40, hn, hF, hM, hK⟩ | ⟨-, hF, hM⟩
  · have hm1 : ¬ f_X11_isStone μ (nI j) = 0 := by rw [hM]; exact i_1ne0
    have es : sdt (mI μ 0 0 0) n2 = sdt μ n2 := sdt_fr (fr_thr μ 0)
    obtain ⟨c1, c2, τ, μ', V, c3, c4, c5, c6, c7⟩ := fo_i (thr_rep (t := 0) h) (by rw [es]; exact hG) hj
    have hFo : ∀ nq, FL_fall σ x (nI j) nq = .ok (V, τ) := by
      intro nq
      show f_X10_fall σ x (nI j) = _
      unfold f_X10_fall
      rw [hF, exb_i, c3]
    have hMo : f_X11_fall μ (nI j) = (V, μ') := by
      unfold f_X11_fall
      rw [if_neg hm1]
      unfold f_X11_fall_14
      rw [if_pos (by decide), c4]
    refine ⟨?_, no_er hFo, ⟨e2, fun z => absurd z hm1, fun _ => ⟨fun _ => ⟨c2, trivial⟩, fun _ => trivial⟩⟩, fun nq g _ _ => cl_oI (hFo nq) hMo c7 (sc_rep c5 (rep_fr hh (fr_tr (fr_thr μ 0) c6))) g⟩
    unfold of_X10_fall
    rw [hF, exo_i]
    exact ⟨e1, c1, trivial⟩
  · have hFe : ∀ nq, FL_fall σ x p0 nq = .error 3 := fun nq => by
      show f_X10_fall σ x p0 = _
      unfold f_X10_fall
      rw [hF, exb_e]
    have hMe : f_X11_fall μ p0 = (0, mI μ 0 0 1) := by
      unfold f_X11_fall
      rw [if_pos hM]
      exact if_neg i1
    refine ⟨?_, is_er hFe rfl, ⟨e2, fun _ => ⟨fun z => absurd z i1, fun _ => trivial⟩, fun z => absurd hM z⟩, fun nq g _ _ => cl_eI hFe hMe (fr_refl μ) d1 (by decide) hh nq g⟩
    unfold of_X10_fall
    rw [hF, exo_e]
    exact ⟨e1, trivial⟩

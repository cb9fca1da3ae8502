/-! ===== sightings and fireballs, by number ===== -/
theorem spr_ms {σ : XS} {x : Nat} {μ : MS} {n0 n1 n2 n4 n5 n6 : Nat} (h : Rep0 σ x μ n0 n1 n2 n4 n5 n6) : of_X11_spreads μ ∧ MS1 (f_X11_spreads μ) n2 (sdt μ n2) ∧ Fr μ (f_X11_spreads μ) ∧ mi (f_X11_spreads μ) 0 0 = mi μ 0 0 := by
  obtain ⟨o, A, lw, hA⟩ := spreads_i (rep_mx h) (rep_sx h).2
  refine ⟨o, ⟨mx_f (rep_mx h) (ls_fr lw), fun k hk => ⟨(lw.2.2 k hk).1, ?_⟩⟩, ls_fr lw, by show (f_X11_spreads μ).1 0 0 = μ.1 0 0; rw [lw.1 0 (by decide) (by decide)]⟩
  rw [(lw.2.2 k hk).2]
  constructor
  · intro z y
    rw [if_pos ((hA k hk).mpr y)] at z
    exact i_1ne0 z
  · intro z
    exact if_neg (fun y => z ((hA k hk).mp y))
theorem ms_mf_thr {μ : MS} {n : Nat} {s : Nat → Nat → Int32} {t : Int32} (h : MS1 μ n s) : MS1 (mI μ 0 0 t) n s := ⟨mx_f h.1 (fr_thr μ t), h.2⟩
theorem sg_ex {σ : XS} {x : Nat} {μ : MS} {n0 n2 : Nat} (p : Int32) (h : RSis σ μ n0 n2) : of_X10_existingSighting σ x p ∧ ((∃ j, j < n2 ∧ p = nI j ∧ ix p = j ∧ vp_in p 60 ∧ f_X10_existingSighting σ x p = .ok (xe σ 2 j) ∧ f_X11_isIn p 0 (mi μ 13 0 - 1) = 1 ∧ xk σ (xe σ 2 j) = 7) ∨ (f_X10_existingSighting σ x p = .error 3 ∧ f_X11_isIn p 0 (mi μ 13 0 - 1) = 0)) := by
  obtain ⟨h60, hm, ⟨hx, hk, -⟩, -⟩ := h
  unfold of_X10_existingSighting f_X10_existingSighting f_X10_existingSighting_17
  rw [hx, hm]
  rcases in_or p 0 (nI n2 - 1) with ⟨a1, a2, -⟩ | ⟨a1, a2, -⟩
  · obtain ⟨j, hj, rfl⟩ := (rng_iff (by omega) rfl).mp a1
    have c0 : ¬ nI j < 0 := nI_pos (by omega)
    have c1 : nI j < nI n2 := by rw [nI_ltI (by omega) (by omega)]; exact hj
    have hix : ix (nI j) = j := clamp_nI (by omega)
    rw [hix, if_neg c0, if_pos c1]
    exact ⟨⟨fun _ => trivial, fun _ => ⟨fun _ => ⟨nI_in hj (by omega), hk j hj, trivial⟩, fun _ => trivial⟩⟩, Or.inl ⟨j, hj, rfl, rfl, nI_in (by omega) (by decide), rfl, a2, hk j hj⟩⟩
  · by_cases c0 : p < 0
    · rw [if_pos c0]
      exact ⟨⟨fun _ => trivial, fun z => absurd c0 z⟩, Or.inr ⟨rfl, a2⟩⟩
    · rw [if_neg c0]
      by_cases c1 : p < nI n2
      · exfalso
        obtain ⟨j, hj, rfl⟩ := nI_of c0
        rw [nI_ltI (by omega) (by omega)] at c1
        exact a1 ((rng_iff (by omega) rfl).mpr ⟨j, c1, rfl⟩)
      · rw [if_neg c1]
        exact ⟨⟨fun z => absurd z c0, fun _ => ⟨fun z => absurd z c1, fun _ => trivial⟩⟩, Or.inr ⟨rfl, a2⟩⟩
theorem isf_i {μ : MS} {n : Nat} {s : Nat → Nat → Int32} (h : MS1 μ n s) (p : Int32) : of_X11_isFireball μ p ∧ ((∃ f, f < n ∧ isF (JJ s n) f ∧ p = nI f ∧ f_X11_isFireball μ p = 1) ∨ (f_X11_isFireball μ p = 0 ∧ ∀ f, p = nI f → f < 60 → ¬ isF (JJ s n) f)) := by
  have hn := h.1.1
  have h13 : mi μ 13 0 = nI n := h.1.2.1
  unfold of_X11_isFireball f_X11_isFireball
  rw [h13]
  rcases in_or p 0 (nI n - 1) with ⟨a1, a2, -⟩ | ⟨a1, a2, -⟩
  · obtain ⟨j, hj, rfl⟩ := (rng_iff (by omega) rfl).mp a1
    have hix : ix (nI j) = j := clamp_nI (by omega)
    have v : vp_in (nI j) 60 := nI_in (by omega) (by decide)
    obtain ⟨q1, q2⟩ := h.2 j hj
    have c2 : ¬ f_X11_isIn (nI j) 0 (nI n - 1) = 0 := by rw [a2]; exact i_1ne0
    rw [if_neg c2, hix]
    refine ⟨⟨fun z => absurd z c2, fun _ => ⟨v, fun _ => trivial, fun _ => ⟨v, trivial⟩⟩⟩, ?_⟩
    by_cases c : mi μ 24 j = 0
    · rw [if_pos c]
      refine Or.inr ⟨rfl, fun f e hf z => ?_⟩
      have : j = f := (nI_eq (by omega) (by omega)).mp e
      subst this
      exact q2.mp c z.1
    · rw [if_neg c, q1]
      have hlo : low (JJ s n) j < 2 ^ 31 := Nat.lt_of_le_of_lt (low_le _ _) (by omega)
      by_cases d : nI (low (JJ s n) j) = nI j
      · rw [if_pos d]
        refine Or.inl ⟨j, hj, ⟨Classical.byContradiction (fun z => c (q2.mpr z)), (nI_eq hlo (by omega)).mp d⟩, rfl, rfl⟩
      · rw [if_neg d]
        refine Or.inr ⟨rfl, fun f e hf z => ?_⟩
        have : j = f := (nI_eq (by omega) (by omega)).mp e
        subst this
        exact d (by rw [z.2])
  · rw [if_pos a2]
    refine ⟨⟨fun _ => trivial, fun z => absurd a2 z⟩, Or.inr ⟨rfl, fun f e hf z => ?_⟩⟩
    obtain ⟨m, hm⟩ := z.1
    have hf2 := ((gr_JJ s n).2 f m hm).1
    exact a1 ((rng_iff (by omega) rfl).mpr ⟨f, hf2, e⟩)
theorem fb_ex {σ : XS} {x : Nat} {s : Nat → Nat → Int32} {n : Nat} (p : Int32) (h3 : Lst σ 3 5 60) (hG : RG σ n s) (hs : Sok s n) (hn : n ≤ 60) : of_X10_existingFireball σ x p ∧ ((∃ f, f < n ∧ isF (JJ s n) f ∧ p = nI f ∧ f_X10_existingFireball σ x p = .ok (xe σ 3 f) ∧ xk σ (xe σ 3 f) = 5) ∨ (f_X10_existingFireball σ x p = .error 3 ∧ ∀ f, p = nI f → f < 60 → ¬ isF (JJ s n) f)) := by
  obtain ⟨hx, hk, -⟩ := h3
  unfold of_X10_existingFireball f_X10_existingFireball f_X10_existingFireball_36 of_X4_exists f_X4_exists
  rw [hx]
  by_cases c0 : p < 0
  · rw [if_pos c0]
    refine ⟨⟨fun _ => trivial, fun z => absurd c0 z⟩, Or.inr ⟨rfl, fun f e hf _ => ?_⟩⟩
    rw [e] at c0
    exact nI_pos (by omega) c0
  · obtain ⟨j, hj, rfl⟩ := nI_of c0
    rw [if_neg c0]
    by_cases c1 : nI 60 ≤ nI j
    · rw [if_pos c1]
      refine ⟨⟨fun z => absurd z c0, fun _ => ⟨fun _ => trivial, fun z => absurd c1 z⟩⟩, Or.inr ⟨rfl, fun f e hf _ => ?_⟩⟩
      rw [e, nI_leI (by omega) (by omega)] at c1
      omega
    · rw [if_neg c1]
      rw [nI_leI (by omega) hj] at c1
      have hix : ix (nI j) = j := clamp_nI hj
      have v : vp_in (nI j) 60 := nI_in (by omega) (by decide)
      have kj := hk j (by omega)
      obtain ⟨g1, g2⟩ := hG.2.2 j (by omega)
      rw [hix]
      refine ⟨⟨fun z => absurd z c0, fun _ => ⟨fun _ => trivial, fun _ => ⟨v, kj, ⟨kj, trivial⟩, fun _ => trivial, fun _ => ⟨v, trivial⟩⟩⟩⟩, ?_⟩
      by_cases c : isF (JJ s n) j
      · have r := (g1 c).2.1
        obtain ⟨p1, p2, -⟩ := z_pos hs hn c
        have c2 : ¬ xi σ 101 (xe σ 3 j) ≤ 0 := by
          rw [Int32.le_iff_toInt_le, r]
          have : (0 : Int32).toInt = 0 := rfl
          omega
        rw [if_neg c2, if_neg i_1ne0]
        exact Or.inl ⟨j, p1, c, rfl, rfl, kj⟩
      · have c2 : xi σ 101 (xe σ 3 j) ≤ 0 := by rw [g2 c]; exact Int32.le_refl _
        rw [if_pos c2, if_pos rfl]
        refine Or.inr ⟨rfl, fun f e hf z => ?_⟩
        have : j = f := (nI_eq (by omega) (by omega)).mp e
        subst this
        exact c z
/-- the reference's answer to fireball, and to fireballAnew -/
theorem fof_i {σ : XS} {x : Nat} {μ : MS} {n0 n1 n2 n4 n5 n6 j : Nat} (h : Rep0 σ x μ n0 n1 n2 n4 n5 n6) (hj : j < n2) (hi : f_X11_isIn (nI j) 0 (mi μ 13 0 - 1) = 1) : of_X11_fireballOf μ (nI j) ∧ ∃ μ', Fr μ μ' ∧ mi μ' 0 0 = 0 ∧ (jd (JJ (sdt μ n2) n2) j → f_X11_fireballOf μ (nI j) = (nI (low (JJ (sdt μ n2) n2) j), μ')) ∧ (¬ jd (JJ (sdt μ n2) n2) j → f_X11_fireballOf μ (nI j) = (-1, μ')) := by
  have h60 := h.2.2.2.2.1.1
  obtain ⟨o, hms, hfr, ht⟩ := spr_ms (thr_rep (t := 0) h)
  have es : sdt (mI μ 0 0 0) n2 = sdt μ n2 := sdt_fr (fr_thr μ 0)
  rw [es] at hms
  have c2 : ¬ f_X11_isIn (nI j) 0 (mi μ 13 0 - 1) = 0 := by rw [hi]; exact i_1ne0
  have hix : ix (nI j) = j := clamp_nI (by omega)
  have v : vp_in (nI j) 60 := nI_in (by omega) (by decide)
  obtain ⟨q1, q2⟩ := hms.2 j hj
  have e : f_X11_fireballOf μ (nI j) = f_X11_fireballOf_36 μ (nI j) (f_X11_spreads (mI μ 0 0 0)) := by
    unfold f_X11_fireballOf
    rw [if_neg c2]
    unfold f_X11_fireballOf_20
    rw [if_pos (by decide)]
  refine ⟨⟨fun z => absurd z c2, fun _ => ⟨fun _ => ⟨o, v, fun _ => trivial, fun _ => ⟨v, trivial⟩⟩, fun _ => trivial⟩⟩, f_X11_spreads (mI μ 0 0 0), fr_tr (fr_thr μ 0) hfr, ht, fun z => ?_, fun z => ?_⟩
  · rw [e]
    unfold f_X11_fireballOf_36
    rw [hix, if_neg (fun y => q2.mp y z), q1]
  · rw [e]
    unfold f_X11_fireballOf_36
    rw [hix, if_pos (q2.mpr z)]
theorem fof_e {μ : MS} {p : Int32} (hi : f_X11_isIn p 0 (mi μ 13 0 - 1) = 0) : of_X11_fireballOf μ p ∧ f_X11_fireballOf μ p = (0, mI μ 0 0 1) := by
  have i1 : ¬ (1 : Int32) ≤ 0 := by decide
  refine ⟨⟨fun _ => ⟨fun z => absurd z i1, fun _ => trivial⟩, fun z => absurd hi z⟩, ?_⟩
  unfold f_X11_fireballOf
  rw [if_pos hi]
  exact if_neg i1
theorem br_fireball : Br_fireball Rep := by
  intro σ x μ p0 hh
  obtain ⟨n0, n1, n2, n4, n5, n6, h, hG⟩ := id hh
  have hsi := h.2.2.2.2.1
  have d1 : cd_fireball 3 = 1 := by decide
  obtain ⟨e1, e3⟩ := sg_ex (x := x) p0 hsi
  rcases e3 with ⟨j, hj, rfl, hix, v, hF, hM, hK⟩ | ⟨hF, hM⟩
  · obtain ⟨oM, μ', hfr, ht, m1, m2⟩ := fof_i h hj hM
    obtain ⟨g1, g2⟩ := hG.2.1 j hj
    have oo : of_X10_fireball σ x (nI j) := by
      unfold of_X10_fireball
      rw [hF, exo_i]
      exact ⟨e1, hK, trivial⟩
    have hFo : ∀ nq, FL_fireball σ x (nI j) nq = .ok (xi σ 150 (xe σ 2 j), σ) := by
      intro nq
      show exm σ (f_X10_fireball σ x (nI j)) = _
      unfold f_X10_fireball
      rw [hF, exb_i]; rfl
    have hMo : f_X11_fireball μ (nI j) = (xi σ 150 (xe σ 2 j), μ') := by
      unfold f_X11_fireball
      by_cases c : jd (JJ (sdt μ n2) n2) j
      · rw [m1 c, g1 c]
      · rw [m2 c, g2 c]
    exact ⟨oo, no_er hFo, ⟨oM, trivial⟩, fun nq f _ _ => cl_oI (hFo nq) hMo ht (rep_fr hh hfr) f⟩
  · obtain ⟨oM, eM⟩ := fof_e hM
    have hFe : ∀ nq, FL_fireball σ x p0 nq = .error 3 := fun nq => by
      show exm σ (f_X10_fireball σ x p0) = _
      unfold f_X10_fireball
      rw [hF, exb_e]; rfl
    have hMe : f_X11_fireball μ p0 = (0, mI μ 0 0 1) := by
      unfold f_X11_fireball
      rw [eM]
    refine ⟨?_, is_er hFe rfl, ⟨oM, trivial⟩, fun nq f _ _ => cl_eI hFe hMe (fr_refl μ) d1 (by decide) hh nq f⟩
    unfold of_X10_fireball
    rw [hF, exo_e]
    exact ⟨e1, trivial⟩
/-! ===== told ===== -/
def tnum (μ : MS) (p : Int32) : Int64 := if p = 0 then (mi μ 32 0).toInt64 else if p = 1 then ml μ 27 0 else if p = 2 then ml μ 28 0 else if p = 3 then ml μ 29 0 else if p = 4 then ml μ 30 0 else if p = 5 then ml μ 31 0 else if p = 6 then ml μ 33 0 else (1000 * (mi μ 34 0).toInt64) / (ml μ 31 0 + 1)
theorem zms_i {s : Nat → Nat → Int32} {n f : Nat} {μ : MS} (h : ZM s n f μ) : B6 ((1000 * (mi μ 34 0).toInt64) / (ml μ 31 0 + 1)) (zMs s n f) 2147483648000 ∧ ¬ ml μ 31 0 + 1 = 0 := by
  obtain ⟨z1, z2, z3, z4, z5, z6, z7, z8, z9⟩ := h
  have hq : 0 ≤ qBri s n f n := mxx_nn n
  have a := b6_mul b6_1000 (b6_w (mi μ 34 0)) (by omega)
  rw [z2] at a
  have b := b6_add z8 b6_1 (by omega)
  exact ⟨b6_div a b (by omega) (by omega) (by omega), b6_n0 b (by omega)⟩
theorem tnum_i {σ : XS} {s : Nat → Nat → Int32} {n f q : Nat} {μ : MS} (hk : xk σ q = 5) (h : RR s n f q σ) (g : ZM s n f μ) (p : Int32) : of_X4_number σ q p ∧ f_X4_number σ q p = tnum μ p := by
  refine ⟨⟨fun _ => ⟨hk, trivial⟩, fun _ => ⟨fun _ => ⟨hk, trivial⟩, fun _ => ⟨fun _ => ⟨hk, trivial⟩, fun _ => ⟨fun _ => ⟨hk, trivial⟩, fun _ => ⟨fun _ => ⟨hk, trivial⟩, fun _ => ⟨fun _ => ⟨hk, trivial⟩, fun _ => ⟨fun _ => ⟨hk, trivial⟩, fun _ => ⟨hk, trivial⟩⟩⟩⟩⟩⟩⟩⟩, ?_⟩
  have zm := (zms_i g).1
  obtain ⟨r1, r2, r3, r4, r5, r6, r7, r8, r9, r10⟩ := h
  obtain ⟨z1, z2, z3, z4, z5, z6, z7, z8, z9⟩ := g
  unfold f_X4_number tnum
  rw [b6_eq r3 z3, b6_eq r4 z4, b6_eq r5 z5, b6_eq r6 z6, b6_eq r8 z8, b6_eq r9 z9, b6_eq r10 zm, Int32.toInt_inj.mp (r2.trans z1.symm)]
theorem br_told : Br_told Rep := by
  intro σ x μ p0 p1 hh
  obtain ⟨n0, n1, n2, n4, n5, n6, h, hG⟩ := id hh
  have h60 := h.2.2.2.2.1.1
  have h3 := h.2.2.2.2.2.2.2.2.2.2.2.1
  have hs := (rep_sx h).2
  have d1 : cd_told 3 = 1 := by decide
  have d2 : cd_told 1 = 2 := by decide
  have i1 : ¬ (1 : Int32) ≤ 0 := by decide
  have i2 : ¬ (2 : Int32) ≤ 0 := by decide
  obtain ⟨oS, hms, hfr, ht⟩ := spr_ms h
  obtain ⟨e1, e3⟩ := fb_ex (x := x) p0 h3 hG hs h60
  obtain ⟨o1, o3⟩ := isf_i hms p0
  obtain ⟨μs, eμ⟩ : ∃ z, f_X11_spreads μ = z := ⟨_, rfl⟩
  have hM0 : f_X11_told μ p0 p1 = f_X11_told_4 μ p0 p1 μs := by unfold f_X11_told; rw [eμ]
  have hO0 : of_X11_told_4 μ p0 p1 μs → of_X11_told μ p0 p1 := fun z => ⟨oS, by rw [eμ]; exact z⟩
  rw [eμ] at hms hfr ht o1 o3
  have t32 : ∀ t, ¬ t ≤ (0 : Int32) → f_X11_told_32 μ p0 p1 t μs = (0, mI μs 0 0 t) ∧ of_X11_told_32 μ p0 p1 t μs := fun t ht => ⟨if_neg ht, fun z => absurd z ht, fun _ => trivial⟩
  rcases e3 with ⟨f, hf, hisf, rfl, hF, hK⟩ | ⟨hF, hno⟩
  · rcases o3 with ⟨f', -, -, -, hI⟩ | ⟨-, hno⟩
    · have hm1 : ¬ f_X11_isFireball μs (nI f) = 0 := by rw [hI]; exact i_1ne0
      rcases in_or p1 0 7 with ⟨a1, a2, a3⟩ | ⟨a1, a2, a3⟩
      · have hm2 : ¬ f_X11_isIn p1 0 7 = 0 := by rw [a2]; exact i_1ne0
        have hms' : MS1 (mI μs 0 0 0) n2 (sdt μ n2) := ms_mf_thr hms
        obtain ⟨oM, hmf, hz⟩ := measures_i hms' hs hisf
        obtain ⟨μ', eμ'⟩ : ∃ z, f_X11_measures (mI μs 0 0 0) (nI f) = z := ⟨_, rfl⟩
        rw [eμ'] at hmf hz
        obtain ⟨oN, eN⟩ := tnum_i hK ((hG.2.2 f (by omega)).1 hisf) hz p1
        have hFo : ∀ nq, FL_told σ x (nI f) p1 nq = .ok (tnum μ' p1, σ) := by
          intro nq
          show exm σ (f_X10_told σ x (nI f) p1) = _
          unfold f_X10_told
          rw [hF, exb_i, a3, exb_i, eN]; rfl
        have hMo : f_X11_told μ (nI f) p1 = (tnum μ' p1, μ') := by
          rw [hM0]
          unfold f_X11_told_4
          rw [if_neg hm1, if_neg hm2]
          unfold f_X11_told_32
          rw [if_pos (by decide), eμ']
          unfold f_X11_told_49 tnum
          split
          · rfl
          · split
            · rfl
            · split
              · rfl
              · split
                · rfl
                · split
                  · rfl
                  · split
                    · rfl
                    · split
                      · rfl
                      · rfl
        have ht' : mi μ' 0 0 = 0 := by
          show μ'.1 0 0 = 0
          rw [hmf 0 (by decide) (by decide)]
          rfl
        refine ⟨?_, no_er hFo, hO0 ⟨o1, fun z => absurd z hm1, fun _ => ⟨fun z => absurd z hm2, fun _ => ⟨fun _ => ⟨oM, ?_⟩, fun _ => trivial⟩⟩⟩, fun nq g _ _ => cl_oL (hFo nq) hMo ht' (rep_fr hh (fr_tr (fr_thr2 hfr 0) (fr_mf hmf))) g⟩
        · unfold of_X10_told
          rw [hF, exo_i, a3, exo_i]
          exact ⟨e1, oN, hK, trivial⟩
        · rw [eμ']
          exact ⟨fun _ => trivial, fun _ => ⟨fun _ => trivial, fun _ => ⟨fun _ => trivial, fun _ => ⟨fun _ => trivial, fun _ => ⟨fun _ => trivial, fun _ => ⟨fun _ => trivial, fun _ => ⟨fun _ => trivial, fun _ => ⟨(zms_i hz).2, trivial⟩⟩⟩⟩⟩⟩⟩⟩
      · have hFe : ∀ nq, FL_told σ x (nI f) p1 nq = .error 1 := fun nq => by
          show exm σ (f_X10_told σ x (nI f) p1) = _
          unfold f_X10_told
          rw [hF, exb_i, a3, exb_e]; rfl
        have hMe : f_X11_told μ (nI f) p1 = (0, mI μs 0 0 2) := by
          rw [hM0]
          unfold f_X11_told_4
          rw [if_neg hm1, if_pos a2]
          exact (t32 2 i2).1
        refine ⟨?_, is_er hFe (Or.inr rfl), hO0 ⟨o1, fun z => absurd z hm1, fun _ => ⟨fun _ => (t32 2 i2).2, fun z => absurd a2 z⟩⟩, fun nq g _ _ => cl_eL hFe hMe hfr d2 (by decide) hh nq g⟩
        unfold of_X10_told
        rw [hF, exo_i, a3, exo_e]
        exact ⟨e1, trivial⟩
    · exact absurd hisf (hno f rfl (by omega))
  · rcases o3 with ⟨f, hf, hisf, rfl, hI⟩ | ⟨hI, -⟩
    · exact absurd hisf (hno f rfl (by omega))
    · have hFe : ∀ nq, FL_told σ x p0 p1 nq = .error 3 := fun nq => by
        show exm σ (f_X10_told σ x p0 p1) = _
        unfold f_X10_told
        rw [hF, exb_e]; rfl
      have hMe : f_X11_told μ p0 p1 = (0, mI μs 0 0 1) := by
        rw [hM0]
        unfold f_X11_told_4
        rw [if_pos hI]
        exact (t32 1 i1).1
      refine ⟨?_, is_er hFe (Or.inl rfl), hO0 ⟨o1, fun _ => (t32 1 i1).2, fun z => absurd hI z⟩, fun nq g _ _ => cl_eL hFe hMe hfr d1 (by decide) hh nq g⟩
      unfold of_X10_told
      rw [hF, exo_e]
      exact ⟨e1, trivial⟩

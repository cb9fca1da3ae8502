/-! ===== name ===== -/
theorem cnt_n {f g : Nat → Int32} {v : Int32} : ∀ n, (∀ k, k < n → (g k = v ↔ f k = v)) → cnt g v n = cnt f v n
  | 0, _ => rfl
  | n + 1, h => by
    have ih := cnt_n n (fun k hk => h k (by omega))
    have hn := h n (by omega)
    show cnt g v n + (if g n = v then 1 else 0) = cnt f v n + (if f n = v then 1 else 0)
    rw [ih]
    by_cases c : f n = v
    · rw [if_pos c, if_pos (hn.mpr c)]
    · rw [if_neg c, if_neg (fun z => c (hn.mp z))]
theorem name_cnt {σ : XS} {n6 j i : Nat} (hj : j < n6) (hu : ∀ a b, a < n6 → b < n6 → xe σ 6 a = xe σ 6 b → a = b) (hi : i < 10) (hf : xi σ 173 (xe σ 6 j) = -1) : ∀ k, k < 10 → cnt (fun m => xi (xI σ 173 (xe σ 6 j) (nI i)) 173 (xe σ 6 m)) (nI k) n6 = cnt (fun m => xi σ 173 (xe σ 6 m)) (nI k) n6 + (if k = i then 1 else 0) := by
  intro k hk
  have hm : ∀ a, a < 10 → ¬ (-1 : Int32) = nI a := fun a ha z => nI_m1 (k := a) (by omega) z.symm
  by_cases c : k = i
  · subst c
    rw [if_pos rfl]
    rw [cnt_c (g := fun m => if m = j then nI k else xi σ 173 (xe σ 6 m)) n6 (fun m hmn => by
      show xi (xI σ 173 (xe σ 6 j) (nI k)) 173 (xe σ 6 m) = if m = j then nI k else xi σ 173 (xe σ 6 m)
      rw [xi_at]
      by_cases d : m = j
      · rw [if_pos (by rw [d]), if_pos d]
      · rw [if_neg (fun e => d (hu m j hmn hj e)), if_neg d])]
    exact cnt_u (f := fun m => xi σ 173 (xe σ 6 m)) (fun z => hm k hk (hf.symm.trans z)) (if_pos rfl) (fun m hmj => if_neg hmj) n6 hj
  · rw [if_neg c, Nat.add_zero]
    refine cnt_n n6 (fun m hmn => ?_)
    show xi (xI σ 173 (xe σ 6 j) (nI i)) 173 (xe σ 6 m) = nI k ↔ xi σ 173 (xe σ 6 m) = nI k
    rw [xi_at]
    by_cases d : m = j
    · rw [if_pos (by rw [d]), d, hf]
      exact ⟨fun z => absurd ((nI_eq (by omega) (by omega)).mp z) (fun e => c e.symm), fun z => absurd z (hm k hk)⟩
    · rw [if_neg (fun e => d (hu m j hmn hj e))]
theorem name_rep {σ : XS} {x : Nat} {μ : MS} {n0 n1 n2 n4 n5 n6 j i : Nat} {t : Int32} (hj : j < n6) (hi : i < 10) (hf : xi σ 173 (xe σ 6 j) = -1) (h : Rep0 σ x μ n0 n1 n2 n4 n5 n6) : Rep0 (xI (xI (xI σ 173 (xe σ 6 j) (nI i)) 241 i (xi σ 241 i + 1)) 174 (xe σ 6 j) (xi σ 241 i + 1)) x (mI (mI (mI μ 0 0 t) 62 i (mi μ 62 i + 1)) 60 j (100 * nI i + (mi μ 62 i + 1))) n0 n1 n2 n4 n5 n6 := by
  obtain ⟨h1, h2, h3, h4, h5, h6, h7, h8, h9, h10, h11, h12⟩ := h
  obtain ⟨g1, g2, g3, g4, g5, g6⟩ := h8
  have hc := name_cnt hj g5.2.2 hi hf
  have hci := hc i hi
  rw [if_pos rfl] at hci
  obtain ⟨q1, q2⟩ := h10 i hi
  have hle := cnt_le (f := fun m => xi (xI σ 173 (xe σ 6 j) (nI i)) 173 (xe σ 6 m)) (v := nI i) n6
  rw [hci] at hle
  obtain ⟨N, eN⟩ : ∃ N, cnt (fun m => xi σ 173 (xe σ 6 m)) (nI i) n6 = N := ⟨_, rfl⟩
  rw [eN] at hle hci q2
  have v1 : mi μ 62 i + 1 = nI (N + 1) := by rw [q2, nI_1]
  have v2 : xi σ 241 i + 1 = nI (N + 1) := by rw [q1, v1]
  refine ⟨h1, h2, h3, h4, h5, h6, h7, ⟨g1, g2, g3, g4, g5, fun k hk => ?_⟩, h9, fun k hk => ?_, h11, h12⟩
  · obtain ⟨a1, a2, a3, a4, a5, a6, a7, a8, a9, a10, a11, a12, a13, a14, a15, a16, a17⟩ := g6 k hk
    refine ⟨a1, a2, a3, a4, a5, a6, a7, a8, a9, a10, a11, a12, a13, a14, a15, a16, ?_⟩
    show (xi (xI σ 173 (xe σ 6 j) (nI i)) 173 (xe σ 6 k) = -1 ∧ mi (mI μ 60 j (100 * nI i + (mi μ 62 i + 1))) 60 k = -1) ∨ (rng 0 9 (xi (xI σ 173 (xe σ 6 j) (nI i)) 173 (xe σ 6 k)) ∧ rng 1 40 (xi (xI σ 174 (xe σ 6 j) (xi σ 241 i + 1)) 174 (xe σ 6 k)) ∧ mi (mI μ 60 j (100 * nI i + (mi μ 62 i + 1))) 60 k = 100 * xi (xI σ 173 (xe σ 6 j) (nI i)) 173 (xe σ 6 k) + xi (xI σ 174 (xe σ 6 j) (xi σ 241 i + 1)) 174 (xe σ 6 k))
    rw [xi_at, xi_at, mi_at]
    by_cases d : k = j
    · have d' : xe σ 6 k = xe σ 6 j := by rw [d]
      rw [if_pos d', if_pos d', if_pos d, v1, v2]
      exact Or.inr ⟨(rng_iff (n := 10) (by decide) (by decide)).mpr ⟨i, hi, rfl⟩, ⟨by rw [show (1 : Int32) = nI 1 from rfl, nI_leI (by omega) (by omega)]; omega, by rw [show (40 : Int32) = nI 40 from rfl, nI_leI (by omega) (by omega)]; omega⟩, rfl⟩
    · have d' : ¬ xe σ 6 k = xe σ 6 j := fun e => d (g5.2.2 k j hk hj e)
      rw [if_neg d', if_neg d', if_neg d]
      exact a17
  · obtain ⟨r1, r2⟩ := h10 k hk
    have hck := hc k hk
    show xi (xI σ 241 i (xi σ 241 i + 1)) 241 k = mi (mI μ 62 i (mi μ 62 i + 1)) 62 k ∧ mi (mI μ 62 i (mi μ 62 i + 1)) 62 k = nI (cnt (fun m => xi (xI σ 173 (xe σ 6 j) (nI i)) 173 (xe σ 6 m)) (nI k) n6)
    rw [hck, xi_at, mi_at]
    by_cases c : k = i
    · rw [if_pos c, if_pos c, if_pos c, v1, v2]
      refine ⟨rfl, ?_⟩
      rw [c, eN]
    · rw [if_neg c, if_neg c, if_neg c]
      exact ⟨r1, r2⟩
theorem br_name : Br_name Rep := by
  intro σ x μ p0 p1 hh
  obtain ⟨n0, n1, n2, n4, n5, n6, h, hG⟩ := id hh
  have hst := h.2.2.2.2.2.2.2.1
  have d1 : cd_name 3 = 1 := by decide
  have d2 : cd_name 1 = 2 := by decide
  have d3 : cd_name 2 = 3 := by decide
  have i1 : ¬ (1 : Int32) ≤ 0 := by decide
  have i2 : ¬ (2 : Int32) ≤ 0 := by decide
  have i3 : ¬ (3 : Int32) ≤ 0 := by decide
  obtain ⟨e1, e2, e3⟩ := st_ex (x := x) p0 hst
  have t44 : ∀ t, ¬ t ≤ (0 : Int32) → f_X11_name_44 μ p0 p1 t = (0, mI μ 0 0 t) ∧ of_X11_name_44 μ p0 p1 t := fun t ht => ⟨if_neg ht, fun z => absurd z ht, fun _ => trivial⟩
  rcases e3 with ⟨j, hj, rfl, hix, h40, hn, hF, hM, hK⟩ | ⟨-, hF, hM⟩
  · have hm1 : ¬ f_X11_isStone μ (nI j) = 0 := by rw [hM]; exact i_1ne0
    rcases in_or p1 0 9 with ⟨a1, a2, a3⟩ | ⟨a1, a2, a3⟩
    · obtain ⟨i, hi, rfl⟩ := (rng_iff (n := 10) (by decide) (by decide)).mp a1
      have hm2 : ¬ f_X11_isIn (nI i) 0 9 = 0 := by rw [a2]; exact i_1ne0
      have hii : ix (nI i) = i := clamp_nI (by omega)
      have vin : vp_in (nI i) 10 := nI_in hi (by decide)
      have n0' : ¬ nI i < 0 := nI_pos (by omega)
      have n10 : nI i < 10 := by rw [show (10 : Int32) = nI 10 from rfl, nI_ltI (by omega) (by omega)]; exact hi
      obtain ⟨b1, b2, b3, b4, b5, b6, b7, b8, b9, b10, b11, b12, b13, b14, b15, b16, b17⟩ := hst.2.2.2.2.2 j hj
      have own : (xi σ 173 (xe σ 6 j) = -1 ∧ mi μ 60 j = -1) ∨ (¬ xi σ 173 (xe σ 6 j) = -1 ∧ ¬ mi μ 60 j = -1) := by
        rcases b17 with c | ⟨c1, c2, c3⟩
        · exact Or.inl c
        · obtain ⟨k, hk, ek⟩ := (rng_iff (n := 10) (by decide) (by decide)).mp c1
          rw [ek] at c3 ⊢
          refine Or.inr ⟨nI_m1 (by omega), ?_⟩
          rw [c3]
          have u := rng_i (L := 1) (H := 40) c2 rfl rfl
          have w : (nI k).toInt = k := nI_toInt (by omega)
          have w2 : (100 * nI k).toInt = 100 * (k : Int) := by
            rw [i32_mul (m := 900) (by rw [w]; show (100 * (k : Int)).natAbs ≤ 900; omega) (by omega), w]; rfl
          intro z
          have z2 := congrArg Int32.toInt z
          rw [i32_add (m := 1000) (by omega) (by omega), w2] at z2
          have : (-1 : Int32).toInt = -1 := rfl
          omega
      rcases own with ⟨c1, c2⟩ | ⟨c1, c2⟩
      · have ho : f_X7_hasOwnName σ (xe σ 6 j) = 0 := if_pos c1
        obtain ⟨σ', es⟩ : ∃ z, xI (xI (xI σ 173 (xe σ 6 j) (nI i)) 241 i (xi σ 241 i + 1)) 174 (xe σ 6 j) (xi σ 241 i + 1) = z := ⟨_, rfl⟩
        have nx : f_X10_nextNumberOf (xI σ 173 (xe σ 6 j) (nI i)) x (nI i) = (xi σ 241 i + 1, xI (xI σ 173 (xe σ 6 j) (nI i)) 241 i (xi σ 241 i + 1)) := by
          unfold f_X10_nextNumberOf
          rw [if_neg n0', if_pos n10, hii, xi_at, if_pos rfl]
          rfl
        have hFo : ∀ nq, FL_name σ x (nI j) (nI i) nq = .ok (xi σ 241 i + 1, σ') := by
          intro nq
          show f_X10_name σ x (nI j) (nI i) = _
          unfold f_X10_name
          rw [hF, exb_i, a3, exb_i, ho, if_pos rfl, nx]
          unfold f_X10_name_42
          rw [xi_at, if_pos rfl, es]
        have q1 := (h.2.2.2.2.2.2.2.2.2.1 i hi).1
        have hMo : f_X11_name μ (nI j) (nI i) = (xi σ 241 i + 1, mI (mI (mI μ 0 0 0) 62 i (mi μ 62 i + 1)) 60 j (100 * nI i + (mi μ 62 i + 1))) := by
          unfold f_X11_name
          rw [if_neg hm1, if_neg hm2, hix, if_pos c2]
          unfold f_X11_name_44
          rw [if_pos (by decide), hii, hix, mi_at, if_pos rfl]
          unfold f_X11_name_83
          rw [hii, mi_ne (by decide), mi_at, if_pos rfl, q1]
        refine ⟨?_, no_er hFo, ⟨e2, fun z => absurd z hm1, fun _ => ⟨fun z => absurd z hm2, fun _ => ⟨h40, fun _ => ⟨fun _ => ⟨vin, vin, vin, h40, vin, trivial⟩, fun _ => trivial⟩, fun z => absurd (by rw [hix]; exact c2) z⟩⟩⟩, fun nq f hq hq0 => cl_oI (hFo nq) hMo rfl (by rw [← es]; exact ⟨n0, n1, n2, n4, n5, n6, name_rep hj hi c1 h, hG⟩) f⟩
        unfold of_X10_name
        rw [hF, exo_i, a3, exo_i, ho, nx]
        exact ⟨e1, ⟨hK, trivial⟩, hK, fun _ => ⟨⟨fun z => absurd z n0', fun _ => ⟨fun _ => ⟨vin, vin, vin, trivial⟩, fun z => absurd n10 z⟩⟩, hK, hK, trivial⟩, fun _ => trivial⟩
      · have ho : f_X7_hasOwnName σ (xe σ 6 j) = 1 := if_neg c1
        have hFe : ∀ nq, FL_name σ x (nI j) (nI i) nq = .error 2 := by
          intro nq
          show f_X10_name σ x (nI j) (nI i) = _
          unfold f_X10_name
          rw [hF, exb_i, a3, exb_i, ho, if_neg i_1ne0]
        have hMe : f_X11_name μ (nI j) (nI i) = (0, mI μ 0 0 3) := by
          unfold f_X11_name
          rw [if_neg hm1, if_neg hm2, hix, if_neg c2]
          exact (t44 3 i3).1
        refine ⟨?_, is_er hFe (Or.inr (Or.inr rfl)), ⟨e2, fun z => absurd z hm1, fun _ => ⟨fun z => absurd z hm2, fun _ => ⟨h40, fun z => absurd (by rw [hix] at z; exact z) c2, fun _ => (t44 3 i3).2⟩⟩⟩, fun nq f _ _ => cl_eI hFe hMe (fr_refl μ) d3 (by decide) hh nq f⟩
        unfold of_X10_name
        rw [hF, exo_i, a3, exo_i, ho]
        exact ⟨e1, ⟨hK, trivial⟩, hK, fun z => absurd z i_1ne0, fun _ => trivial⟩
    · have hFe : ∀ nq, FL_name σ x (nI j) p1 nq = .error 1 := by
        intro nq
        show f_X10_name σ x (nI j) p1 = _
        unfold f_X10_name
        rw [hF, exb_i, a3, exb_e]
      have hMe : f_X11_name μ (nI j) p1 = (0, mI μ 0 0 2) := by
        unfold f_X11_name
        rw [if_neg hm1, if_pos a2]
        exact (t44 2 i2).1
      refine ⟨?_, is_er hFe (Or.inr (Or.inl rfl)), ⟨e2, fun z => absurd z hm1, fun _ => ⟨fun _ => (t44 2 i2).2, fun z => absurd a2 z⟩⟩, fun nq f _ _ => cl_eI hFe hMe (fr_refl μ) d2 (by decide) hh nq f⟩
      unfold of_X10_name
      rw [hF, exo_i, a3, exo_e]
      exact ⟨e1, trivial⟩
  · have hFe : ∀ nq, FL_name σ x p0 p1 nq = .error 3 := fun nq => by
      show f_X10_name σ x p0 p1 = _
      unfold f_X10_name
      rw [hF, exb_e]
    have hMe : f_X11_name μ p0 p1 = (0, mI μ 0 0 1) := by
      unfold f_X11_name
      rw [if_pos hM]
      exact (t44 1 i1).1
    refine ⟨?_, is_er hFe (Or.inl rfl), ⟨e2, fun _ => (t44 1 i1).2, fun z => absurd hM z⟩, fun nq f _ _ => cl_eI hFe hMe (fr_refl μ) d1 (by decide) hh nq f⟩
    unfold of_X10_name
    rw [hF, exo_e]
    exact ⟨e1, trivial⟩

/-! ===== pieces, weights ===== -/
def PP (z w : Int) (i : Nat) : Int := (z + w * (20 * (5 - (i : Int)))) / 100
theorem pp_w {w : Int} {i : Nat} (hw : w.natAbs ≤ 20) (hi : i < 5) : (w * (20 * (5 - (i : Int)))).natAbs ≤ 2000 := by
  rw [Int.natAbs_mul]
  have a : (20 * (5 - (i : Int))).natAbs ≤ 100 := by omega
  have b := Nat.mul_le_mul hw a
  omega
theorem six_i {i : Nat} (hi : i < 5) : (6 - nI (i + 1)).toInt = 5 - (i : Int) := by
  have e : (nI (i + 1)).toInt = ((i + 1 : Nat) : Int) := nI_toInt (by omega)
  have e6 : (6 : Int32).toInt = 6 := rfl
  rw [i32_sub (m := 100) (by rw [e, e6]; omega) (by omega), e, e6]
  omega
theorem pc_i {Z : Int64} {z w : Int} {v : Int32} {i : Nat} (hz : B6 Z z 198009900) (hv : v.toInt = w) (hw : w.natAbs ≤ 20) (hi : i < 5) : B6 (f_J9_floorDiv_f86c9 (Z + ((v * 20) * (6 - nI (i + 1))).toInt64) 100) (PP z w i) 198011900 := by
  have e20 : (20 : Int32).toInt = 20 := rfl
  have h1 : (v * 20).toInt = w * 20 := by rw [i32_mul (m := 1000) (by rw [hv, e20]; omega) (by omega), hv, e20]
  have hb := pp_w hw hi
  have h2 : ((v * 20) * (6 - nI (i + 1))).toInt = w * (20 * (5 - (i : Int))) := by
    rw [i32_mul (m := 10000) (by rw [h1, six_i hi, Int.mul_assoc]; omega) (by omega), h1, six_i hi, Int.mul_assoc]
  exact b6_fd (b6_add hz (b6_i32 h2 hb) (by omega)) b6_100 (by omega) (by omega)
theorem pm_i {Z T : Int64} {z w : Int} {i : Nat} (hz : B6 Z z 198009900) (hT : B6 T (w * (20 * (5 - (i : Int)))) 2000) : B6 (f_X11_down (Z + T) 100) (PP z w i) 198011900 ∧ of_X11_down (Z + T) 100 := ⟨b6_dn (b6_add hz hT (by omega)) b6_100 (by omega) (by omega), of_dn b6_100 (by omega)⟩
/-- the scatter as the class holds it -/
def SCt (σ : XS) (q : Nat) (zx zy wx wy : Int) : Prop := xk σ q = 4 ∧ B6 (xj σ 80 q) zx 198009900 ∧ B6 (xj σ 81 q) zy 198009900 ∧ (xi σ 82 q).toInt = wx ∧ (xi σ 83 q).toInt = wy ∧ wx.natAbs ≤ 20 ∧ wy.natAbs ≤ 20
def MCt (μ : MS) (zx zy wx wy : Int) : Prop := ∀ i, i < 5 → B6 (ml μ 44 i) (PP zx wx i) 198011900 ∧ B6 (ml μ 45 i) (PP zy wy i) 198011900
theorem px_i {σ : XS} {q : Nat} {zx zy wx wy : Int} (h : SCt σ q zx zy wx wy) {i : Nat} (hi : i < 5) : of_X3_pieceX σ q (nI (i + 1)) ∧ of_X3_pieceY σ q (nI (i + 1)) ∧ B6 (f_X3_pieceX σ q (nI (i + 1))) (PP zx wx i) 198011900 ∧ B6 (f_X3_pieceY σ q (nI (i + 1))) (PP zy wy i) 198011900 := by
  obtain ⟨k, h1, h2, h3, h4, h5, h6⟩ := h
  exact ⟨⟨k, of_fd b6_100 (by omega), trivial⟩, ⟨k, of_fd b6_100 (by omega), trivial⟩, pc_i h1 h3 h5 hi, pc_i h2 h4 h6 hi⟩
theorem cw_i {σ : XS} {q : Nat} {zx zy wx wy : Int} (h : SCt σ q zx zy wx wy) {a b : Int32} {A B : Int} (ha : a.toInt = A) (hb : b.toInt = B) (hA : 0 ≤ A ∧ A ≤ 99) (hB : 0 ≤ B ∧ B ≤ 99) : of_X3_weight σ q a b ∧ B6 (f_X3_weight σ q a b) (1000000 * wsq (PP zx wx) (PP zy wy) A B) 40000000 := by
  have k4 := h.1
  have ta : B6 a.toInt64 A 99 := b6_i32 ha (by omega)
  have tb' : B6 b.toInt64 B 99 := b6_i32 hb (by omega)
  have main := itr_for (f := s_X3_weight_5 q a b σ) (o := os_X3_weight_5 q a b σ) (fun k (w : Int64) => (w, nI (k + 1))) (fun k w => B6 w (sm (fun i => max 0 (8 - max ((A - PP zx wx i).natAbs : Int) ((B - PP zy wy i).natAbs : Int))) k) (8 * k)) (n := 5) (by
    intro k w hk hw
    obtain ⟨o1, o2, p1, p2⟩ := px_i h hk
    have c1 : ¬ (5 : Int32) < nI (k + 1) := by rw [show (5 : Int32) = nI 5 from rfl, nI_ltI (by omega) (by omega)]; omega
    constructor
    · exact ⟨fun _ => trivial, fun _ => ⟨o1, k4, o2, trivial⟩⟩
    · have d1 := b6_abs (b6_sub ta p1 (by omega)) (by omega)
      have d2 := b6_abs (b6_sub tb' p2 (by omega)) (by omega)
      have d3 := b6_max d1 d2
      have d4 := b6_max (b6_le b6_0 (Nat.zero_le _)) (b6_sub b6_8 d3 (by omega))
      have d5 : B6 (f_J9_max_f86c9 0 (8 - f_J9_max_f86c9 (f_J9_abs_067f4 (a.toInt64 - f_X3_pieceX σ q (nI (k + 1)))) (f_J9_abs_067f4 (b.toInt64 - f_X3_pieceY σ q (nI (k + 1)))))) (max 0 (8 - max ((A - PP zx wx k).natAbs : Int) ((B - PP zy wy k).natAbs : Int))) 8 := ⟨d4.1, by omega⟩
      refine ⟨w + f_J9_max_f86c9 0 (8 - f_J9_max_f86c9 (f_J9_abs_067f4 (a.toInt64 - f_X3_pieceX σ q (nI (k + 1)))) (f_J9_abs_067f4 (b.toInt64 - f_X3_pieceY σ q (nI (k + 1))))), ?_, ?_⟩
      · show b_X3_weight_5 q a b σ w (nI (k + 1)) = _
        unfold b_X3_weight_5 f_X3_weight_l5_40
        rw [if_neg c1, nI_1]
      · exact b6_le (b6_add hw d5 (by omega)) (by omega)) (by
    intro w hw
    have c1 : (5 : Int32) < nI (5 + 1) := by decide
    show ob_X3_weight_5 q a b σ w (nI (5 + 1)) ∧ b_X3_weight_5 q a b σ w (nI (5 + 1)) = _
    unfold ob_X3_weight_5 b_X3_weight_5
    rw [if_pos c1]
    exact ⟨⟨fun _ => trivial, fun z => absurd c1 z⟩, rfl⟩) FU 0 0 (Nat.zero_le _) (by show 5 - 0 < 100000; omega) b6_0
  obtain ⟨m1, w, m2, m3⟩ := main
  have m2 : itr (s_X3_weight_5 q a b σ) FU (0, 1) = (w, nI 6) := m2
  refine ⟨⟨m1, trivial⟩, ?_⟩
  unfold f_X3_weight f_X3_weight_5 f_X3_weight_59
  rw [m2]
  exact b6_mul b6_M m3 (by omega)
theorem m103 {a b p : Int32} {μ : MS} {w4 v t : Int64} {w6 v6 : Int32} {S d : Int} {m : Nat} (hv : B6 v S m) (ht : B6 t d 198011999) (h0 : 0 ≤ d) (hm : m ≤ 1000) : ∃ w', f_X11_weight_l6_103 p a b μ w4 w6 v v6 t = (true, (w', v6 + 1)) ∧ B6 w' (S + max 0 (8 - d)) (m + 8) := by
  unfold f_X11_weight_l6_103 f_X11_weight_l6_126
  by_cases c : 8 ≤ d
  · rw [if_pos ((b6_ge ht b6_8).mpr c)]
    refine ⟨_, rfl, ?_⟩
    have q := b6_add hv b6_0 (by omega)
    exact ⟨by rw [q.1]; omega, by have := hv.2; omega⟩
  · rw [if_neg (fun z => c ((b6_ge ht b6_8).mp z))]
    refine ⟨_, rfl, ?_⟩
    have q := b6_add hv (b6_sub b6_8 ht (by omega)) (by omega)
    exact ⟨by rw [q.1]; omega, by have := hv.2; omega⟩
theorem m86 {a b p : Int32} {μ : MS} {w4 v t u : Int64} {w6 v6 : Int32} {S d e : Int} {m : Nat} (hv : B6 v S m) (ht : B6 t d 198011999) (hu : B6 u e 198011999) (h0 : 0 ≤ d) (h1 : 0 ≤ e) (hm : m ≤ 1000) : ∃ w', f_X11_weight_l6_86 p a b μ w4 w6 v v6 t u = (true, (w', v6 + 1)) ∧ B6 w' (S + max 0 (8 - max d e)) (m + 8) := by
  unfold f_X11_weight_l6_86
  by_cases c : d ≤ e
  · rw [if_pos ((b6_cle ht hu).mpr c), show max d e = e by omega]
    exact m103 hv hu h1 hm
  · rw [if_neg (fun z => c ((b6_cle ht hu).mp z)), show max d e = d by omega]
    exact m103 hv ht h0 hm
theorem mw5_i {μ : MS} {zx zy wx wy : Int} (h : MCt μ zx zy wx wy) (p : Int32) {a b : Int32} {A B : Int} (ha : a.toInt = A) (hb : b.toInt = B) (hA : 0 ≤ A ∧ A ≤ 99) (hB : 0 ≤ B ∧ B ≤ 99) : ito (s_X11_weight_6 p a b μ) (os_X11_weight_6 p a b μ) FU (0, 0) ∧ ∃ w, itr (s_X11_weight_6 p a b μ) FU (0, 0) = (w, 5) ∧ B6 w (wsq (PP zx wx) (PP zy wy) A B) 40 := by
  have ta : B6 a.toInt64 A 99 := b6_i32 ha (by omega)
  have tb' : B6 b.toInt64 B 99 := b6_i32 hb (by omega)
  have main := itr_for (f := s_X11_weight_6 p a b μ) (o := os_X11_weight_6 p a b μ) (fun k (w : Int64) => (w, nI k)) (fun k w => B6 w (sm (fun i => max 0 (8 - max ((A - PP zx wx i).natAbs : Int) ((B - PP zy wy i).natAbs : Int))) k) (8 * k)) (n := 5) (by
    intro k w hk hw
    obtain ⟨p1, p2⟩ := h k hk
    have hix : ix (nI k) = k := clamp_nI (by omega)
    have c1 : ¬ (5 : Int32) ≤ nI k := by rw [show (5 : Int32) = nI 5 from rfl, nI_leI (by omega) (by omega)]; omega
    have v : vp_in (nI k) 5 := nI_in hk (by decide)
    have o48 : ∀ t, of_X11_weight_l6_48 p a b μ w (nI k) w (nI k) t := fun t => ⟨v, fun _ => ⟨v, trivial⟩, fun _ => ⟨v, trivial⟩⟩
    have q1 := p1.2
    have q2 := p2.2
    have e48 : ∀ t, B6 t ((A - PP zx wx k).natAbs : Int) 198011999 → ∃ w', f_X11_weight_l6_48 p a b μ w (nI k) w (nI k) t = (true, (w', nI k + 1)) ∧ B6 w' (sm (fun i => max 0 (8 - max ((A - PP zx wx i).natAbs : Int) ((B - PP zy wy i).natAbs : Int))) k + max 0 (8 - max ((A - PP zx wx k).natAbs : Int) ((B - PP zy wy k).natAbs : Int))) (8 * k + 8) := by
      intro t ht
      unfold f_X11_weight_l6_48
      rw [hix]
      by_cases c : PP zy wy k ≤ B
      · rw [if_pos ((b6_cle p2 tb').mpr c)]
        have e := b6_sub tb' p2 (by omega)
        exact m86 hw ht ⟨by rw [e.1]; omega, by omega⟩ (by omega) (by omega) (by omega)
      · rw [if_neg (fun z => c ((b6_cle p2 tb').mp z))]
        have e := b6_sub p2 tb' (by omega)
        exact m86 hw ht ⟨by rw [e.1]; omega, by omega⟩ (by omega) (by omega) (by omega)
    have key : ∃ t, B6 t ((A - PP zx wx k).natAbs : Int) 198011999 ∧ b_X11_weight_6 p a b μ w (nI k) = f_X11_weight_l6_48 p a b μ w (nI k) w (nI k) t := by
      unfold b_X11_weight_6
      rw [if_neg c1, hix]
      by_cases c : PP zx wx k ≤ A
      · rw [if_pos ((b6_cle p1 ta).mpr c)]
        have e := b6_sub ta p1 (by omega)
        exact ⟨_, ⟨by rw [e.1]; omega, by omega⟩, rfl⟩
      · rw [if_neg (fun z => c ((b6_cle p1 ta).mp z))]
        have e := b6_sub p1 ta (by omega)
        exact ⟨_, ⟨by rw [e.1]; omega, by omega⟩, rfl⟩
    obtain ⟨t, t1, t2⟩ := key
    obtain ⟨w', w1, w2⟩ := e48 t t1
    refine ⟨⟨fun _ => trivial, fun _ => ⟨v, fun _ => ⟨v, o48 _⟩, fun _ => ⟨v, o48 _⟩⟩⟩, w', ?_, b6_le w2 (by omega)⟩
    show b_X11_weight_6 p a b μ w (nI k) = _
    rw [t2, w1, nI_1]) (by
    intro w hw
    have c1 : (5 : Int32) ≤ nI 5 := by decide
    show ob_X11_weight_6 p a b μ w (nI 5) ∧ b_X11_weight_6 p a b μ w (nI 5) = _
    unfold ob_X11_weight_6 b_X11_weight_6
    rw [if_pos c1]
    exact ⟨⟨fun _ => trivial, fun z => absurd c1 z⟩, rfl⟩) FU 0 0 (Nat.zero_le _) (by show 5 - 0 < 100000; omega) b6_0
  obtain ⟨m1, w, m2, m3⟩ := main
  exact ⟨m1, w, m2, m3⟩
/-! the walks through a square -/
theorem c100 {v : Int32} {C : Int} (hv : v.toInt = C) (h : 1 ≤ C ∧ C ≤ 100) : B6 (100 - v).toInt64 (100 - C) 99 := by
  have e : (100 : Int32).toInt = 100 := rfl
  exact b6_i32 (by rw [i32_sub (m := 1000) (by rw [hv, e]; omega) (by omega), hv, e]) (by omega)
theorem cleft_i {σ : XS} {x : Nat} {μ : MS} {n5 : Nat} (h : RWal σ μ n5) (p a b : Int32) {V : Int64} {W : Int} (hV : B6 V W 40000000) (hW : 0 ≤ W) : of_X10_weightLeft σ x V p a b ∧ B6 (f_X10_weightLeft σ x V p a b) (wl μ p a b W n5) 40000000 := by
  have h60 := h.1
  have hx := h.2.2.1.1
  have hk := h.2.2.1.2.1
  have hV2 := hV.2
  have main := itr_for (f := s_X10_weightLeft_6 x p a b σ) (o := os_X10_weightLeft_6 x p a b σ) (fun k (w : Int64) => (w, nI k)) (fun k w => B6 w (wl μ p a b W k) 40000000) (n := n5) (by
    intro k w hk2 hw
    have hix : ix (nI k) = k := clamp_nI (by omega)
    have c1 : ¬ nI n5 ≤ nI k := by rw [nI_leI (by omega) (by omega)]; omega
    have kk := hk k hk2
    obtain ⟨r1, r2, r3, r4, -, -, r7, -⟩ := h.2.2.2 k hk2
    have r7' := rng_i (L := 1) (H := 100) r7 rfl rfl
    have wb := wl_b h p a b hW k (by omega)
    have pb := part_b wb.1 r7'.1 r7'.2
    constructor
    · show ob_X10_weightLeft_6 x p a b σ w (nI k)
      unfold ob_X10_weightLeft_6
      rw [hx, hix]
      exact ⟨fun _ => trivial, fun _ => ⟨nI_in hk2 (by omega), kk, ⟨kk, trivial⟩, trivial⟩⟩
    · show ∃ b', b_X10_weightLeft_6 x p a b σ w (nI k) = (true, (b', nI (k + 1))) ∧ B6 b' (if (mi μ 40 k = p ∧ mi μ 41 k = a ∧ mi μ 42 k = b) then (wl μ p a b W k * (100 - (mi μ 43 k).toInt)) / 100 else wl μ p a b W k) 40000000
      unfold b_X10_weightLeft_6 f_X10_weightLeft_l6_67 f_X8_isThrough
      rw [hx, if_neg c1, hix, r1, r2, r3, r4, nI_1]
      by_cases c : mi μ 40 k = p ∧ mi μ 41 k = a ∧ mi μ 42 k = b
      · rw [if_pos c.1, if_pos c.2.1, if_pos c.2.2, if_neg i_1ne0, if_pos c]
        refine ⟨_, rfl, ?_⟩
        have e := b6_div (b6_mul hw (c100 rfl r7') (by omega)) b6_100 (by omega) pb.2.2.1 (by omega)
        exact ⟨e.1, by omega⟩
      · have z : (if mi μ 40 k = p then (if mi μ 41 k = a then (if mi μ 42 k = b then (1 : Int32) else 0) else 0) else 0) = 0 := by
          by_cases d1 : mi μ 40 k = p
          · by_cases d2 : mi μ 41 k = a
            · rw [if_pos d1, if_pos d2, if_neg (fun d3 => c ⟨d1, d2, d3⟩)]
            · rw [if_pos d1, if_neg d2]
          · rw [if_neg d1]
        rw [z, if_pos rfl, if_neg c]
        exact ⟨w, rfl, hw⟩) (by
    intro w hw
    show ob_X10_weightLeft_6 x p a b σ w (nI n5) ∧ b_X10_weightLeft_6 x p a b σ w (nI n5) = _
    unfold ob_X10_weightLeft_6 b_X10_weightLeft_6
    rw [hx, if_pos (Int32.le_refl _)]
    exact ⟨⟨fun _ => trivial, fun z => absurd (Int32.le_refl _) z⟩, rfl⟩) FU 0 V (Nat.zero_le _) (by show n5 - 0 < 100000; omega) hV
  obtain ⟨m1, w, m2, m3⟩ := main
  have m2 : itr (s_X10_weightLeft_6 x p a b σ) FU (V, 0) = (w, nI n5) := m2
  refine ⟨⟨m1, trivial⟩, ?_⟩
  unfold f_X10_weightLeft f_X10_weightLeft_6 f_X10_weightLeft_73
  rw [m2]
  exact m3
theorem mleft_i {σ : XS} {μ : MS} {n5 : Nat} (h : RWal σ μ n5) (p a b : Int32) {V : Int64} {W : Int} (hV : B6 V W 40000000) (hW : 0 ≤ W) : ito (s_X11_weight_146 p a b μ) (os_X11_weight_146 p a b μ) FU (V, 0) ∧ B6 (itr (s_X11_weight_146 p a b μ) FU (V, 0)).1 (wl μ p a b W n5) 40000000 := by
  have h60 := h.1
  have hm := h.2.1
  have hV2 := hV.2
  have main := itr_inv (f := s_X11_weight_146 p a b μ) (o := os_X11_weight_146 p a b μ) (fun v => ∃ k, k ≤ n5 ∧ v.2 = nI k ∧ B6 v.1 (wl μ p a b W k) 40000000) (fun v => n5 - ix v.2) (by
    rintro ⟨w, y⟩ ⟨k, hk, hy, hw⟩
    have hy : y = nI k := hy
    have hw : B6 w (wl μ p a b W k) 40000000 := hw
    have hix : ix (nI k) = k := clamp_nI (by omega)
    show ob_X11_weight_146 p a b μ w y ∧ ((b_X11_weight_146 p a b μ w y).1 = true → (∃ k, k ≤ n5 ∧ (b_X11_weight_146 p a b μ w y).2.2 = nI k ∧ B6 (b_X11_weight_146 p a b μ w y).2.1 (wl μ p a b W k) 40000000) ∧ n5 - ix (b_X11_weight_146 p a b μ w y).2.2 < n5 - ix y)
    rw [hy]
    unfold ob_X11_weight_146 b_X11_weight_146 f_X11_weight_l146_216 f_X11_weight_l146_218
    rw [hm, hix]
    by_cases c1 : nI n5 ≤ nI k
    · rw [if_pos c1]
      exact ⟨⟨fun _ => trivial, fun z => absurd c1 z⟩, fun z => absurd z Bool.false_ne_true⟩
    · rw [if_neg c1]
      rw [nI_leI (by omega) (by omega)] at c1
      have v : vp_in (nI k) 60 := nI_in (by omega) (by decide)
      refine ⟨⟨fun _ => trivial, fun _ => ⟨fun _ => trivial, fun _ => ⟨v, fun _ => ⟨v, fun _ => ⟨v, fun _ => ⟨v, trivial⟩, fun _ => trivial⟩, fun _ => trivial⟩, fun _ => trivial⟩⟩⟩, ?_⟩
      obtain ⟨-, -, -, -, -, -, r7, -⟩ := h.2.2.2 k (by omega)
      have r7' := rng_i (L := 1) (H := 100) r7 rfl rfl
      have wb := wl_b h p a b hW k (by omega)
      have pb := part_b wb.1 r7'.1 r7'.2
      have hix2 : ix (nI (k + 1)) = k + 1 := clamp_nI (by omega)
      by_cases c2 : lg_cmp w 0 ≤ 0
      · rw [if_pos c2]; exact fun z => absurd z Bool.false_ne_true
      · rw [if_neg c2]
        intro _
        by_cases c : mi μ 40 k = p ∧ mi μ 41 k = a ∧ mi μ 42 k = b
        · rw [if_pos c.1, if_pos c.2.1, if_pos c.2.2, nI_1]
          refine ⟨⟨k + 1, by omega, rfl, ?_⟩, by show n5 - ix (nI (k + 1)) < n5 - k; rw [hix2]; omega⟩
          show B6 _ (if (mi μ 40 k = p ∧ mi μ 41 k = a ∧ mi μ 42 k = b) then (wl μ p a b W k * (100 - (mi μ 43 k).toInt)) / 100 else wl μ p a b W k) 40000000
          rw [if_pos c]
          have e := b6_div (b6_mul hw (c100 rfl r7') (by omega)) b6_100 (by omega) pb.2.2.1 (by omega)
          exact ⟨e.1, by omega⟩
        · have same : (∃ k', k' ≤ n5 ∧ nI (k + 1) = nI k' ∧ B6 w (wl μ p a b W k') 40000000) ∧ n5 - ix (nI (k + 1)) < n5 - k := by
            refine ⟨⟨k + 1, by omega, rfl, ?_⟩, by rw [hix2]; omega⟩
            show B6 _ (if (mi μ 40 k = p ∧ mi μ 41 k = a ∧ mi μ 42 k = b) then (wl μ p a b W k * (100 - (mi μ 43 k).toInt)) / 100 else wl μ p a b W k) 40000000
            rw [if_neg c]
            exact hw
          rw [nI_1]
          by_cases d1 : mi μ 40 k = p
          · by_cases d2 : mi μ 41 k = a
            · rw [if_pos d1, if_pos d2, if_neg (fun d3 => c ⟨d1, d2, d3⟩)]
              exact same
            · rw [if_pos d1, if_neg d2]
              exact same
          · rw [if_neg d1]
            exact same) FU (V, 0) ⟨0, Nat.zero_le _, rfl, hV⟩ (by show n5 - ix 0 < 100000; omega)
  obtain ⟨m1, ⟨w, y⟩, ⟨k, hk, hy, hw⟩, m3, m4⟩ := main
  have hy : y = nI k := hy
  have hw : B6 w (wl μ p a b W k) 40000000 := hw
  have m3 : (b_X11_weight_146 p a b μ w y).1 = false := m3
  refine ⟨m1, ?_⟩
  rw [m4]
  show B6 (b_X11_weight_146 p a b μ w y).2.1 (wl μ p a b W n5) 40000000
  have hix : ix (nI k) = k := clamp_nI (by omega)
  rw [hy] at m3 ⊢
  unfold b_X11_weight_146 f_X11_weight_l146_216 f_X11_weight_l146_218 at m3 ⊢
  rw [hm, hix] at m3 ⊢
  by_cases c1 : nI n5 ≤ nI k
  · rw [if_pos c1]
    rw [nI_leI (by omega) (by omega)] at c1
    have : k = n5 := by omega
    rw [← this]
    exact hw
  · rw [if_neg c1] at m3 ⊢
    by_cases c2 : lg_cmp w 0 ≤ 0
    · rw [if_pos c2]
      have z1 := (b6_cle hw b6_0).mp c2
      have wb := wl_b h p a b hW k hk
      have z2 : wl μ p a b W k = 0 := by omega
      have z3 := wl_0 h hW z2 (n5 - k) (by omega)
      rw [show k + (n5 - k) = n5 by omega] at z3
      rw [z3, ← z2]
      exact hw
    · rw [if_neg c2] at m3
      exfalso
      by_cases d1 : mi μ 40 k = p
      · by_cases d2 : mi μ 41 k = a
        · by_cases d3 : mi μ 42 k = b
          · rw [if_pos d1, if_pos d2, if_pos d3] at m3
            exact Bool.false_ne_true m3.symm
          · rw [if_pos d1, if_pos d2, if_neg d3] at m3
            exact Bool.false_ne_true m3.symm
        · rw [if_pos d1, if_neg d2] at m3
          exact Bool.false_ne_true m3.symm
      · rw [if_neg d1] at m3
        exact Bool.false_ne_true m3.symm
theorem mw_i {σ : XS} {μ : MS} {n5 : Nat} {zx zy wx wy : Int} (hw : RWal σ μ n5) (h : MCt μ zx zy wx wy) (p : Int32) {a b : Int32} {A B : Int} (ha : a.toInt = A) (hb : b.toInt = B) (hA : 0 ≤ A ∧ A ≤ 99) (hB : 0 ≤ B ∧ B ≤ 99) : of_X11_weight μ p a b ∧ B6 (f_X11_weight μ p a b) (wl μ p a b (1000000 * wsq (PP zx wx) (PP zy wy) A B) n5) 40000000 := by
  obtain ⟨m1, w, m2, m3⟩ := mw5_i h p ha hb hA hB
  have wb := wsq_b (PP zx wx) (PP zy wy) A B
  have e : B6 (w * 1000000) (1000000 * wsq (PP zx wx) (PP zy wy) A B) 40000000 := by
    have q := b6_mul m3 b6_M (by omega)
    exact ⟨by rw [q.1]; omega, by omega⟩
  obtain ⟨u1, u2⟩ := mleft_i hw p a b e (by omega)
  refine ⟨⟨m1, ?_⟩, ?_⟩
  · show of_X11_weight_135 μ p a b ((itr (s_X11_weight_6 p a b μ) FU (0, 0)).1)
    rw [m2]
    exact ⟨u1, trivial⟩
  · unfold f_X11_weight f_X11_weight_6
    rw [m2]
    exact u2

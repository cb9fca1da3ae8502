/-! ===== the law's weights and chances ===== -/
/-- what the law's rows say of the winds and the walks (ghost: the reference's memory ρ) -/
def LWk (μ ρ : MS) (n5 : Nat) : Prop := n5 ≤ 6 ∧ mi μ 2 10 = nI n5 ∧ ∀ k, k < n5 → mi μ 2 (11 + 4 * k) = mi ρ 40 k ∧ mi μ 2 (12 + 4 * k) = mi ρ 41 k ∧ mi μ 2 (13 + 4 * k) = mi ρ 42 k ∧ mi μ 2 (14 + 4 * k) = mi ρ 43 k
theorem ixl_10 : ix 10 = 10 := by decide
theorem w_in {k b : Nat} (hk : k < 6) (hb : b < 16) : vp_in (nI b + 4 * nI k) 64 ∧ ix (nI b + 4 * nI k) = b + 4 * k := by
  rw [show (4 : Int32) = nI 4 from rfl, nI_mul, nI_add]
  exact ⟨in_n (by omega) (by omega), ix_n (by omega)⟩
theorem lpc_i {Z : Int64} {z w : Int} {v : Int32} {i : Nat} (hz : B6 Z z 198009900) (hv : v.toInt = w) (hw : w.natAbs ≤ 20) (hi : i < 5) : B6 (f_L_down (Z + ((v * 20) * (6 - nI (i + 1))).toInt64) 100) (PP z w i) 198011900 := by
  have e20 : (20 : Int32).toInt = 20 := rfl
  have h1 : (v * 20).toInt = w * 20 := by rw [i32_mul (m := 1000) (by rw [hv, e20]; omega) (by omega), hv, e20]
  have hb := pp_w hw hi
  have h2 : ((v * 20) * (6 - nI (i + 1))).toInt = w * (20 * (5 - (i : Int))) := by
    rw [i32_mul (m := 10000) (by rw [h1, six_i hi, Int.mul_assoc]; omega) (by omega), h1, six_i hi, Int.mul_assoc]
  exact b6_ld (b6_add hz (b6_i32 h2 hb) (by omega)) b6_100 (by omega) (by omega)
/-- one piece -/
theorem ww_77 {μ : MS} {p2 p3 p4 p5 : Int32} {K : Int64 → Prop} {w6 : Int64} {w8 : Int32} {KC KE : Int64 × Int32 → Prop} {v6 : Int64} {v8 : Int32} {v9 v11 : Int64} {S d e : Int} {m : Nat} (hv : B6 v6 S m) (hm : m ≤ 1000) (h9 : B6 v9 d 198011999) (h11 : B6 v11 e 198011999) (hC : ∀ w, B6 w (S + max 0 (8 - max (d.natAbs : Int) (e.natAbs : Int))) (m + 8) → KC (w, v8 + 1)) : w_L_weight_l6_77 μ p2 p3 p4 p5 K w6 w8 KC KE v6 v8 v9 v11 := by
  have b8 : B6 8 8 8 := b6_8
  have fin : ∀ t : Int64, B6 t (max (d.natAbs : Int) (e.natAbs : Int)) 198011999 → w_L_weight_l6_126 μ p2 p3 p4 p5 K w6 w8 KC KE v6 v8 t := by
    intro t ht
    unfold w_L_weight_l6_126 w_L_weight_l6_148
    refine oif_i (fun y => hC v6 ?_) (fun y => hC _ ?_)
    · have y' := (b6_ge ht b8).mp y
      have e0 : max 0 (8 - max (d.natAbs : Int) (e.natAbs : Int)) = 0 := by omega
      rw [e0, Int.add_zero]
      exact b6_le hv (by omega)
    · have y' : ¬ 8 ≤ max (d.natAbs : Int) (e.natAbs : Int) := fun w => y ((b6_ge ht b8).mpr w)
      have e0 : max 0 (8 - max (d.natAbs : Int) (e.natAbs : Int)) = 8 - max (d.natAbs : Int) (e.natAbs : Int) := by omega
      rw [e0]
      have s1 := b6_sub b8 ht (by omega)
      have s2 : B6 (8 - t) (8 - max (d.natAbs : Int) (e.natAbs : Int)) 8 := ⟨s1.1, by omega⟩
      exact b6_add hv s2 (by omega)
  have f2 : ∀ (x y : Int64), B6 x (d.natAbs : Int) 198011999 → B6 y (e.natAbs : Int) 198011999 → w_L_weight_l6_109 μ p2 p3 p4 p5 K w6 w8 KC KE v6 v8 x y := by
    intro x y hx hy
    unfold w_L_weight_l6_109
    refine oif_i (fun q => fin y ?_) (fun q => fin x ?_)
    · have q' := (b6_cle hx hy).mp q
      exact b6_A hy (by omega)
    · have q' : ¬ (d.natAbs : Int) ≤ (e.natAbs : Int) := fun w => q ((b6_cle hx hy).mpr w)
      exact b6_A hx (by omega)
  have f3 : ∀ x : Int64, B6 x (d.natAbs : Int) 198011999 → w_L_weight_l6_92 μ p2 p3 p4 p5 K w6 w8 KC KE v6 v8 v11 x := by
    intro x hx
    unfold w_L_weight_l6_92
    refine oif_i (fun q => f2 x v11 hx ?_) (fun q => f2 x (-v11) hx ?_)
    · have q' := (b6_ge h11 b6_0).mp q
      exact b6_A h11 (by omega)
    · have q' : ¬ 0 ≤ e := fun w => q ((b6_ge h11 b6_0).mpr w)
      exact b6_A (b6_neg h11 (by omega)) (by omega)
  unfold w_L_weight_l6_77
  refine oif_i (fun q => f3 v9 ?_) (fun q => f3 (-v9) ?_)
  · have q' := (b6_ge h9 b6_0).mp q
    exact b6_A h9 (by omega)
  · have q' : ¬ 0 ≤ d := fun w => q ((b6_ge h9 b6_0).mpr w)
    exact b6_A (b6_neg h9 (by omega)) (by omega)
theorem wsq_p {P R : Nat → Int} {a b : Int} : ∀ i, 0 ≤ sm (fun i => max 0 (8 - max ((a - P i).natAbs : Int) ((b - R i).natAbs : Int))) i ∧ sm (fun i => max 0 (8 - max ((a - P i).natAbs : Int) ((b - R i).natAbs : Int))) i ≤ 8 * (i : Int)
  | 0 => ⟨Int.le_refl _, Int.le_refl _⟩
  | i + 1 => by
    have ih := wsq_p (P := P) (R := R) (a := a) (b := b) i
    show 0 ≤ sm _ i + max 0 (8 - max ((a - P i).natAbs : Int) ((b - R i).natAbs : Int)) ∧ sm _ i + max 0 (8 - max ((a - P i).natAbs : Int) ((b - R i).natAbs : Int)) ≤ 8 * ((i + 1 : Nat) : Int)
    omega
theorem wweight {σ : XS} {μ ρ : MS} {n5 nt : Nat} {zx zy wx wy : Int} (hk : LWk μ ρ n5) (hw : RWal σ ρ n5) (hn : nt < 2) (h3 : B6 (ml μ 4 3) zx 198009900) (h4 : B6 (ml μ 4 4) zy 198009900) (x1 : (mi μ 2 (2 * nt)).toInt = wx) (x2 : (mi μ 2 (2 * nt + 1)).toInt = wy) (bx : wx.natAbs ≤ 20) (by' : wy.natAbs ≤ 20) {p a b : Int32} {A B : Int} (ha : a.toInt = A) (hb : b.toInt = B) (hA : 0 ≤ A ∧ A ≤ 99) (hB : 0 ≤ B ∧ B ≤ 99) {K : Int64 → Prop} (hK : ∀ V, B6 V (wl ρ p a b (1000000 * wsq (PP zx wx) (PP zy wy) A B) n5) 40000000 → K V) : w_L_weight μ (nI nt) p a b K := by
  have e2 : (2 : Int32) = nI 2 := rfl
  have t1 : ix (2 * nI nt) = 2 * nt := by rw [e2, nI_mul]; exact ix_n (by omega)
  have t2 : ix (2 * nI nt + 1) = 2 * nt + 1 := by rw [e2, nI_mul, nI_1]; exact ix_n (by omega)
  have u1 : vp_in (2 * nI nt) 64 := by rw [e2, nI_mul]; exact in_n (by omega) (by omega)
  have u2 : vp_in (2 * nI nt + 1) 64 := by rw [e2, nI_mul, nI_1]; exact in_n (by omega) (by omega)
  unfold w_L_weight w_L_weight_m6
  refine ⟨fun M v => ∃ i, i ≤ 5 ∧ 6 ≤ M + i ∧ v.2 = nI (i + 1) ∧ B6 v.1 (sm (fun i => max 0 (8 - max ((A - PP zx wx i).natAbs : Int) ((B - PP zy wy i).natAbs : Int))) i) 40, ⟨0, by omega, by omega, rfl, b6_le b6_0 (by omega)⟩, fun v hv => ?_, fun M v hv => ?_⟩
  · obtain ⟨i, g1, g2, -⟩ := hv
    omega
  obtain ⟨v6, v8⟩ := v
  obtain ⟨i, g1, g2, g3, g4⟩ := hv
  dsimp only at g3 g4 ⊢
  subst g3
  unfold b_L_weight_6
  refine oif_i (fun y => ?_) (fun y => ?_)
  · have e : i = 5 := by
      have := (nI_leI (a := 6) (b := i + 1) (by omega) (by omega)).mp y
      omega
    subst e
    have hW : B6 v6 (wsq (PP zx wx) (PP zy wy) A B) 40 := g4
    have wb := wsq_b (PP zx wx) (PP zy wy) A B
    have hV : B6 (v6 * 1000000) (1000000 * wsq (PP zx wx) (PP zy wy) A B) 40000000 := b6_A (b6_mul hW b6_M (by omega)) (Int.mul_comm _ _)
    unfold w_L_weight_m154 w_L_weight_m165
    obtain ⟨k1, k2, k3⟩ := hk
    refine ⟨fun M v => ∃ j, j ≤ n5 ∧ n5 + 1 ≤ M + j ∧ v.2 = nI j ∧ B6 v.1 (wl ρ p a b (1000000 * wsq (PP zx wx) (PP zy wy) A B) j) 40000000, ⟨0, by omega, by omega, rfl, hV⟩, fun v hv => ?_, fun M v hv => ?_⟩
    · obtain ⟨j, g1, g2, -⟩ := hv
      omega
    obtain ⟨v6, v8⟩ := v
    obtain ⟨j, j1, j2, j3, j4⟩ := hv
    dsimp only at j3 j4 ⊢
    subst j3
    unfold b_L_weight_165
    rw [ixl_10, k2]
    refine oif_i (fun y => ?_) (fun y => ?_)
    · have e : j = n5 := by
        have := (nI_leI (by omega) (by omega)).mp y
        omega
      subst e
      unfold w_L_weight_m243
      exact hK v6 j4
    · have hj : j < n5 := by
        rcases Nat.lt_or_ge j n5 with z | z
        · exact z
        · exact absurd (nI_le z (by omega)) y
      obtain ⟨c1, c2, c3, c4⟩ := k3 j hj
      have i11 : ix (11 + 4 * nI j) = 11 + 4 * j := (w_in (b := 11) (by omega) (by omega)).2
      have i12 : ix (12 + 4 * nI j) = 12 + 4 * j := (w_in (b := 12) (by omega) (by omega)).2
      have i13 : ix (13 + 4 * nI j) = 13 + 4 * j := (w_in (b := 13) (by omega) (by omega)).2
      have i14 : ix (14 + 4 * nI j) = 14 + 4 * j := (w_in (b := 14) (by omega) (by omega)).2
      have y11 : vp_in (11 + 4 * nI j) 64 := (w_in (b := 11) (by omega) (by omega)).1
      have y12 : vp_in (12 + 4 * nI j) 64 := (w_in (b := 12) (by omega) (by omega)).1
      have y13 : vp_in (13 + 4 * nI j) 64 := (w_in (b := 13) (by omega) (by omega)).1
      have y14 : vp_in (14 + 4 * nI j) 64 := (w_in (b := 14) (by omega) (by omega)).1
      rw [i11, i12, i13, i14, c1, c2, c3, c4]
      have no : ¬ (mi ρ 40 j = p ∧ mi ρ 41 j = a ∧ mi ρ 42 j = b) → ∃ j', j' ≤ n5 ∧ n5 + 1 ≤ M + j' ∧ nI j + 1 = nI j' ∧ B6 v6 (wl ρ p a b (1000000 * wsq (PP zx wx) (PP zy wy) A B) j') 40000000 := fun c => ⟨j + 1, hj, by omega, (nI_succ j).symm, by
        show B6 v6 (if (mi ρ 40 j = p ∧ mi ρ 41 j = a ∧ mi ρ 42 j = b) then _ else _) 40000000
        rw [if_neg c]; exact j4⟩
      unfold w_L_weight_l165_237
      refine ⟨y11, oif_i (fun d1 => ⟨y12, oif_i (fun d2 => ⟨y13, oif_i (fun d3 => ⟨y14, ?_⟩) (fun d3 => no (fun c => d3 c.2.2))⟩) (fun d2 => no (fun c => d2 c.2.1))⟩) (fun d1 => no (fun c => d1 c.1))⟩
      have hwb := wl_b hw p a b (W := 1000000 * wsq (PP zx wx) (PP zy wy) A B) (by omega) j (by omega)
      obtain ⟨-, -, -, -, -, -, r, -⟩ := hw.2.2.2 j hj
      have r' := rng_i (L := 1) (H := 100) r rfl rfl
      have pb := part_b hwb.1 r'.1 r'.2
      have e := b6_div (b6_mul j4 (c100 rfl r') (by omega)) b6_100 (by omega) pb.2.2.1 (by omega)
      refine ⟨j + 1, hj, by omega, (nI_succ j).symm, ?_⟩
      show B6 _ (if (mi ρ 40 j = p ∧ mi ρ 41 j = a ∧ mi ρ 42 j = b) then _ else _) 40000000
      rw [if_pos ⟨d1, d2, d3⟩]
      exact ⟨e.1, by have := hwb.2; omega⟩
  · have hi : i < 5 := by
      rcases Nat.lt_or_ge i 5 with z | z
      · exact z
      · exact absurd (nI_le (a := 6) (b := i + 1) (by omega) (by omega)) y
    unfold w_L_weight_l6_44
    rw [ixl_3, ixl_4, t1, t2]
    have q1 := lpc_i (i := i) h3 x1 bx hi
    have q2 := lpc_i (i := i) h4 x2 by' hi
    have ba : B6 a.toInt64 A 99 := b6_i32 ha (by omega)
    have bb : B6 b.toInt64 B 99 := b6_i32 hb (by omega)
    refine ⟨u1, u2, ww_77 (m := 40) g4 (by omega) (b6_le (b6_sub q1 ba (by omega)) (by omega)) (b6_le (b6_sub q2 bb (by omega)) (by omega)) (fun w hw' => ?_)⟩
    refine ⟨i + 1, hi, by omega, (nI_succ (i + 1)).symm, ?_⟩
    have hb' := wsq_p (P := PP zx wx) (R := PP zy wy) (a := A) (b := B) (i + 1)
    have es : sm (fun i => max 0 (8 - max ((A - PP zx wx i).natAbs : Int) ((B - PP zy wy i).natAbs : Int))) (i + 1) = sm (fun i => max 0 (8 - max ((A - PP zx wx i).natAbs : Int) ((B - PP zy wy i).natAbs : Int))) i + max 0 (8 - max ((PP zx wx i - A).natAbs : Int) ((PP zy wy i - B).natAbs : Int)) := by
      have s1 : (PP zx wx i - A).natAbs = (A - PP zx wx i).natAbs := by omega
      have s2 : (PP zy wy i - B).natAbs = (B - PP zy wy i).natAbs := by omega
      rw [s1, s2]
      rfl
    refine ⟨by rw [es]; exact hw'.1, ?_⟩
    generalize sm (fun i => max 0 (8 - max ((A - PP zx wx i).natAbs : Int) ((B - PP zy wy i).natAbs : Int))) (i + 1) = Z at hb' ⊢
    omega
/-- the sum over the ground -/
theorem wchance {σ : XS} {μ ρ : MS} {n5 nt : Nat} {zx zy wx wy : Int} (hk : LWk μ ρ n5) (hw : RWal σ ρ n5) (hn : nt < 2) (h3 : B6 (ml μ 4 3) zx 198009900) (h4 : B6 (ml μ 4 4) zy 198009900) (x1 : (mi μ 2 (2 * nt)).toInt = wx) (x2 : (mi μ 2 (2 * nt + 1)).toInt = wy) (bx : wx.natAbs ≤ 20) (by' : wy.natAbs ≤ 20) {p a b : Int32} {A B : Int} (ha : a.toInt = A) (hb : b.toInt = B) (hA : 0 ≤ A ∧ A ≤ 99) (hB : 0 ≤ B ∧ B ≤ 99) {G : Int} (hG : sm (fun a => sm (fun b => wl ρ p (nI a) (nI b) (1000000 * wsq (PP zx wx) (PP zy wy) a b) n5) 100) 100 = G) {K : Int64 → Prop} (hK : ∀ V : Int64, V.toInt = (if G = 0 then 0 else (wl ρ p a b (1000000 * wsq (PP zx wx) (PP zy wy) A B) n5 * 1000000) / G) → K V) : w_L_chance μ (nI nt) p a b K := by
  have each : ∀ i j : Nat, 0 ≤ wl ρ p (nI i) (nI j) (1000000 * wsq (PP zx wx) (PP zy wy) (i : Int) (j : Int)) n5 ∧ wl ρ p (nI i) (nI j) (1000000 * wsq (PP zx wx) (PP zy wy) (i : Int) (j : Int)) n5 ≤ 40000000 := fun i j => by
    have wb := wsq_b (PP zx wx) (PP zy wy) (i : Int) (j : Int)
    have q := wl_b hw p (nI i) (nI j) (W := 1000000 * wsq (PP zx wx) (PP zy wy) (i : Int) (j : Int)) (by omega) n5 (Nat.le_refl _)
    omega
  have row : ∀ i m : Nat, 0 ≤ sm (fun b => wl ρ p (nI i) (nI b) (1000000 * wsq (PP zx wx) (PP zy wy) (i : Int) b) n5) m ∧ (sm (fun b => wl ρ p (nI i) (nI b) (1000000 * wsq (PP zx wx) (PP zy wy) (i : Int) b) n5) m).natAbs ≤ m * 40000000 := fun i m => ⟨sm_nn m (fun j _ => (each i j).1), sm_ab m (fun j _ => by have := each i j; omega)⟩
  have all : ∀ m : Nat, 0 ≤ sm (fun a => sm (fun b => wl ρ p (nI a) (nI b) (1000000 * wsq (PP zx wx) (PP zy wy) a b) n5) 100) m ∧ (sm (fun a => sm (fun b => wl ρ p (nI a) (nI b) (1000000 * wsq (PP zx wx) (PP zy wy) a b) n5) 100) m).natAbs ≤ m * (100 * 40000000) := fun m => ⟨sm_nn m (fun i _ => (row i 100).1), sm_ab m (fun i _ => (row i 100).2)⟩
  have lim : ∀ m : Nat, m ≤ 100 → m * (100 * 40000000) ≤ 400000000000 := fun m h => Nat.le_trans (Nat.mul_le_mul_right _ h) (Nat.le_of_ble_eq_true rfl)
  have lim2 : ∀ m : Nat, m ≤ 100 → m * 40000000 ≤ 4000000000 := fun m h => Nat.le_trans (Nat.mul_le_mul_right _ h) (Nat.le_of_ble_eq_true rfl)
  unfold w_L_chance w_L_chance_m6
  refine ⟨fun M v => ∃ i : Nat, i ≤ 100 ∧ 101 ≤ M + i ∧ v.2 = nI i ∧ v.1.toInt = sm (fun a => sm (fun b => wl ρ p (nI a) (nI b) (1000000 * wsq (PP zx wx) (PP zy wy) a b) n5) 100) i, ⟨0, by omega, by omega, rfl, (show (0 : Int64).toInt = 0 by decide)⟩, fun v hv => ?_, fun M v hv => ?_⟩
  · obtain ⟨i, g1, g2, -⟩ := hv
    omega
  obtain ⟨v6, v8⟩ := v
  obtain ⟨i, g1, g2, g3, g4⟩ := hv
  dsimp only at g3 g4 ⊢
  subst g3
  unfold b_L_chance_6
  refine oif_i (fun y => ?_) (fun y => ?_)
  · have e : i = 100 := by
      have := (nI_leI (a := 100) (b := i) (by omega) (by omega)).mp y
      omega
    subst e
    have h100 := all 100
    rw [hG] at g4 h100
    have hS : B6 v6 G 400000000000 := ⟨g4, h100.2⟩
    unfold w_L_chance_m51
    refine oif_i (fun q => hK 0 ?_) (fun q => ?_)
    · have q' := (b6_ceq hS b6_0).mp q
      rw [if_pos q']; decide
    · have q' : G ≠ 0 := fun w => q ((b6_ceq hS b6_0).mpr w)
      have wb := wsq_b (PP zx wx) (PP zy wy) A B
      refine ⟨fun V => B6 V (wl ρ p a b (1000000 * wsq (PP zx wx) (PP zy wy) A B) n5) 40000000, wweight hk hw hn h3 h4 x1 x2 bx by' ha hb hA hB (fun V hV => hV), fun V hV => ⟨b6_n0 hS (by omega), hK _ ?_⟩⟩
      rw [if_neg q']
      have wn := (wl_b hw p a b (W := 1000000 * wsq (PP zx wx) (PP zy wy) A B) (by omega) n5 (Nat.le_refl _)).1
      exact (b6_div (b6_mul hV b6_M (Nat.le_of_ble_eq_true rfl)) hS (by omega) (Int.mul_nonneg wn (by omega)) (Nat.le_of_ble_eq_true rfl)).1
  · have hi : i < 100 := by
      rcases Nat.lt_or_ge i 100 with z | z
      · exact z
      · exact absurd (nI_le (a := 100) z (by omega)) y
    unfold w_L_chance_l6_16
    have ei : (nI i).toInt = (i : Int) := nI_toInt (by omega)
    have hai := all i
    have lai := lim i (by omega)
    have hS : B6 v6 (sm (fun a => sm (fun b => wl ρ p (nI a) (nI b) (1000000 * wsq (PP zx wx) (PP zy wy) a b) n5) 100) i) 400000000000 := ⟨g4, Nat.le_trans hai.2 lai⟩
    refine ⟨fun M v => ∃ j : Nat, j ≤ 100 ∧ 101 ≤ M + j ∧ v.2 = nI j ∧ v.1.toInt = sm (fun a => sm (fun b => wl ρ p (nI a) (nI b) (1000000 * wsq (PP zx wx) (PP zy wy) a b) n5) 100) i + sm (fun b => wl ρ p (nI i) (nI b) (1000000 * wsq (PP zx wx) (PP zy wy) (i : Int) b) n5) j, ⟨0, by omega, by omega, rfl, by rw [show sm (fun b => wl ρ p (nI i) (nI b) (1000000 * wsq (PP zx wx) (PP zy wy) (i : Int) b) n5) 0 = 0 from rfl, Int.add_zero]; exact g4⟩, fun v hv => ?_, fun M' v hv => ?_⟩
    · obtain ⟨j, g1, g2, -⟩ := hv
      omega
    obtain ⟨w6, w9⟩ := v
    obtain ⟨j, j1, j2, j3, j4⟩ := hv
    dsimp only at j3 j4 ⊢
    subst j3
    unfold b_L_chance_16
    refine oif_i (fun y => ?_) (fun y => ?_)
    · have e : j = 100 := by
        have := (nI_leI (a := 100) (b := j) (by omega) (by omega)).mp y
        omega
      subst e
      unfold w_L_chance_l6_45
      exact ⟨i + 1, hi, by omega, (nI_succ i).symm, j4⟩
    · have hj : j < 100 := by
        rcases Nat.lt_or_ge j 100 with z | z
        · exact z
        · exact absurd (nI_le (a := 100) z (by omega)) y
      have ej : (nI j).toInt = (j : Int) := nI_toInt (by omega)
      refine ⟨fun V => B6 V (wl ρ p (nI i) (nI j) (1000000 * wsq (PP zx wx) (PP zy wy) (i : Int) (j : Int)) n5) 40000000, wweight hk hw hn h3 h4 x1 x2 bx by' ei ej (by omega) (by omega) (fun V hV => hV), fun V hV => ?_⟩
      refine ⟨j + 1, hj, by omega, (nI_succ j).symm, ?_⟩
      show (w6 + V).toInt = sm (fun a => sm (fun b => wl ρ p (nI a) (nI b) (1000000 * wsq (PP zx wx) (PP zy wy) a b) n5) 100) i + (sm (fun b => wl ρ p (nI i) (nI b) (1000000 * wsq (PP zx wx) (PP zy wy) (i : Int) b) n5) j + wl ρ p (nI i) (nI j) (1000000 * wsq (PP zx wx) (PP zy wy) (i : Int) (j : Int)) n5)
      rw [← Int.add_assoc]
      exact pl_i j4 (nab hS.2 (Nat.le_trans (row i j).2 (lim2 j (by omega)))) hV.1 hV.2 (Nat.le_of_ble_eq_true rfl)

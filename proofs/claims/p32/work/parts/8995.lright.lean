/-! ===== the law's check of all answers ===== -/
def LWd (μ ρ : MS) (n4 : Nat) : Prop := ∀ nt, nt < 2 → WNd ρ n4 (nI nt) (mi μ 2 (2 * nt)).toInt (mi μ 2 (2 * nt + 1)).toInt
def LN (ρ : MS) (n : Nat) : Prop := ∀ k, k < n → ∃ nt, nt < 2 ∧ sdt ρ n k 1 = nI nt
/-- the rows that stay -/
def KPr (μ μ' : MS) : Prop := μ'.1 0 = μ.1 0 ∧ μ'.1 1 = μ.1 1 ∧ μ'.1 2 = μ.1 2
theorem kp_lz {μ μ' : MS} {n : Nat} {s : Nat → Nat → Int32} (g : KPr μ μ') (h : LZ μ n s) : LZ μ' n s := lz_eq h g.1 g.2.1
theorem kp_lwk {μ μ' ρ : MS} {n5 : Nat} (g : KPr μ μ') (h : LWk μ ρ n5) : LWk μ' ρ n5 := by
  have m2 : ∀ i, mi μ' 2 i = mi μ 2 i := fun i => congrFun g.2.2 i
  refine ⟨h.1, by rw [m2]; exact h.2.1, fun k hk => ?_⟩
  rw [m2, m2, m2, m2]
  exact h.2.2 k hk
theorem kp_lw {μ μ' ρ : MS} {n4 : Nat} (g : KPr μ μ') (h : LWd μ ρ n4) : LWd μ' ρ n4 := by
  have m2 : ∀ i, mi μ' 2 i = mi μ 2 i := fun i => congrFun g.2.2 i
  intro nt hnt
  rw [m2, m2]
  exact h nt hnt
theorem wnd_b {σ : XS} {ρ : MS} {n4 : Nat} {p : Int32} {wx wy : Int} (h : RWin σ ρ n4) (hw : WNd ρ n4 p wx wy) : wx.natAbs ≤ 20 ∧ wy.natAbs ≤ 20 := by
  rcases hw with ⟨j, j1, j2, j3, j4⟩ | ⟨-, j3, j4⟩
  · obtain ⟨-, -, -, -, w5, w6⟩ := h.2.2.2.2.1 j j1
    have w5' := rng_i (L := -20) (H := 20) w5 rfl rfl
    have w6' := rng_i (L := -20) (H := 20) w6 rfl rfl
    omega
  · omega
theorem lchance {σ : XS} {μ ρ : MS} {n4 n5 nt n f : Nat} {s : Nat → Nat → Int32} {p a b : Int32} {K : Int64 → Prop} (hk : LWk μ ρ n5) (hw : RWal σ ρ n5) (hwi : RWin σ ρ n4) (hW : LWd μ ρ n4) (hn : nt < 2) (hg : AL s n f (μ.2 4)) (ra : rng 0 99 a) (rb : rng 0 99 b) (hK : ∀ V : Int64, V.toInt = CHv ρ (zTx s n f) (zTy s n f) (mi μ 2 (2 * nt)).toInt (mi μ 2 (2 * nt + 1)).toInt n5 p a b → K V) : w_L_chance μ (nI nt) p a b K := by
  obtain ⟨bx, by'⟩ := wnd_b hwi (hW nt hn)
  have A := rng_i (L := 0) (H := 99) ra rfl rfl
  have B := rng_i (L := 0) (H := 99) rb rfl rfl
  exact wchance (G := GG ρ (zTx s n f) (zTy s n f) (mi μ 2 (2 * nt)).toInt (mi μ 2 (2 * nt + 1)).toInt n5 p) hk hw hn hg.2.2.2.1 hg.2.2.2.2.1 rfl rfl bx by' rfl rfl A B rfl hK
theorem cf_at {s : Nat → Nat → Int32} {n k a : Nat} (hs : Sok s n) (hn : n ≤ 60) : cf s n (nI a) (nI a) 0 k = true ↔ isF (JJ s n) k ∧ s k 1 = nI a := by
  rw [cf_t]
  have z0 : (0 : Int32).toInt = 0 := rfl
  have zn := zbl_nn (f := k) hs hn
  constructor
  · rintro ⟨h1, h2, h3, -⟩
    exact ⟨h1, i32_both.mp ⟨h2, h3⟩⟩
  · rintro ⟨h1, h2⟩
    obtain ⟨h3, h4⟩ := i32_both.mpr h2
    exact ⟨h1, h3, h4, by rw [z0]; exact zn⟩
theorem low_100 (v : Int32) : rng 0 99 (f_L_low v 100) := by
  have q : 0 ≤ (f_L_low v 100).toInt ∧ (f_L_low v 100).toInt < ((100 : Nat) : Int) := low_b v (m := 100) (by omega) (by omega)
  exact rng_of (L := 0) (H := 99) rfl rfl (by omega)
theorem b6_9900 : B6 9900 9900 9900 := ⟨by decide, by decide⟩
theorem wr_294 {μ ρ μw : MS} {σ σw : XS} {x n n4 n5 k : Nat} {p4 p5 w8 cx cy : Int32} {K : Int32 → XS → Prop} {KC KE : Int32 × MS × XS → Prop} (h : GS σ x ρ 4 n n4 n5 0) (hz : LZ μ n (sdt ρ n)) (hk : LWk μ ρ n5) (hW : LWd μ ρ n4) (hN : LN ρ n) (hf : isF (JJ (sdt ρ n) n) k) (hg : AL (sdt ρ n) n k (μ.2 4)) (ra : rng 0 99 cx) (rb : rng 0 99 cy) (hC : ∀ τ, GS τ x ρ 4 n n4 n5 0 → KC (nI k + 1, μ, τ)) : w_L_right_l119_294 x p4 p5 K w8 μw σw KC KE (nI k) cy cx μ σ := by
  obtain ⟨-, -, -, hkn⟩ := fb_k h hf
  have h7 := hz.1
  obtain ⟨nt, hnt, ent⟩ := hN k hkn
  obtain ⟨o1, o2⟩ := v_chance h hf (by rw [ent]; exact hW nt hnt) ra rb
  unfold w_L_right_l119_294 w_L_right_l119_333
  refine ⟨o1, fun N hN' hN0 => ?_⟩
  obtain ⟨V, τ, e, hg', hv⟩ := o2 N hN' hN0
  obtain ⟨a1, -⟩ := z_rd hz hkn
  have v1 : vp_in (9 * nI k + 1) 64 := (z_in (b := 1) (by omega) (by omega)).1
  refine ⟨V, τ, e, v1, fun U => U.toInt = V.toInt, ?_, fun U hU => oif_i (fun _ => hC τ hg') (fun z => absurd ?_ z)⟩
  · rw [a1, ent]
    exact lchance hk h.1.2.2.2.2.2.2.1 h.1.2.2.2.2.2.1 hW hnt hg ra rb (fun U hU => hU.trans hv.symm)
  · rw [lg_cmp_eq, ← Int64.toInt_inj, hU]
theorem wr_268 {μ ρ μw : MS} {σ σw : XS} {x n n4 n5 k : Nat} {p4 p5 w8 cx : Int32} {ty : Int64} {K : Int32 → XS → Prop} {KC KE : Int32 × MS × XS → Prop} (h : GS σ x ρ 4 n n4 n5 0) (hz : LZ μ n (sdt ρ n)) (hk : LWk μ ρ n5) (hW : LWd μ ρ n4) (hN : LN ρ n) (hf : isF (JJ (sdt ρ n) n) k) (hg : AL (sdt ρ n) n k (μ.2 4)) (ra : rng 0 99 cx) (rb : rng 0 99 ty.toInt32) (hC : ∀ τ, GS τ x ρ 4 n n4 n5 0 → KC (nI k + 1, μ, τ)) : w_L_right_l119_268 x p4 p5 K w8 μw σw KC KE (nI k) cx ty μ σ := by
  unfold w_L_right_l119_268
  exact oif_i (fun _ => wr_294 h hz hk hW hN hf hg ra rb hC) (fun _ => wr_294 h hz hk hW hN hf hg (low_100 _) rb hC)
theorem wr_227 {μ ρ μw : MS} {σ σw : XS} {x n n4 n5 k : Nat} {p4 p5 w8 : Int32} {tx : Int64} {K : Int32 → XS → Prop} {KC KE : Int32 × MS × XS → Prop} (h : GS σ x ρ 4 n n4 n5 0) (hz : LZ μ n (sdt ρ n)) (hk : LWk μ ρ n5) (hW : LWd μ ρ n4) (hN : LN ρ n) (hf : isF (JJ (sdt ρ n) n) k) (hg : AL (sdt ρ n) n k (μ.2 4)) (ra : rng 0 99 tx.toInt32) (hC : ∀ τ, GS τ x ρ 4 n n4 n5 0 → KC (nI k + 1, μ, τ)) : w_L_right_l119_227 x p4 p5 K w8 μw σw KC KE (nI k) tx μ σ := by
  have h4 : B6 (ml μ 4 4) (zTy (sdt ρ n) n k) 198009900 := hg.2.2.2.2.1
  unfold w_L_right_l119_227
  rw [ixl_4]
  exact oif_i (fun y1 => oif_i (fun y2 => wr_268 h hz hk hW hN hf hg ra (cell_m h4 ((b6_ge h4 b6_0).mp y1) ((b6_cle h4 b6_9900).mp y2)) hC) (fun _ => wr_268 h hz hk hW hN hf hg ra cell_99 hC)) (fun _ => wr_268 h hz hk hW hN hf hg ra cell_0 hC)
theorem wr_189 {μ ρ μw : MS} {σ σw : XS} {x n n4 n5 k : Nat} {p4 p5 w8 : Int32} {K : Int32 → XS → Prop} {KC KE : Int32 × MS × XS → Prop} (h : GS σ x ρ 4 n n4 n5 0) (hz : LZ μ n (sdt ρ n)) (hk : LWk μ ρ n5) (hW : LWd μ ρ n4) (hN : LN ρ n) (hf : isF (JJ (sdt ρ n) n) k) (hg : AL (sdt ρ n) n k (μ.2 4)) (hC : ∀ τ, GS τ x ρ 4 n n4 n5 0 → KC (nI k + 1, μ, τ)) : w_L_right_l119_189 x p4 p5 K w8 μw σw KC KE (nI k) μ σ := by
  have h3 : B6 (ml μ 4 3) (zTx (sdt ρ n) n k) 198009900 := hg.2.2.2.1
  unfold w_L_right_l119_189
  rw [ixl_3]
  exact oif_i (fun y1 => oif_i (fun y2 => wr_227 h hz hk hW hN hf hg (cell_m h3 ((b6_ge h3 b6_0).mp y1) ((b6_cle h3 b6_9900).mp y2)) hC) (fun _ => wr_227 h hz hk hW hN hf hg cell_99 hC)) (fun _ => wr_227 h hz hk hW hN hf hg cell_0 hC)
theorem wr_157 {μ ρ μw : MS} {σ σw : XS} {x n n4 n5 k : Nat} {p4 p5 w8 : Int32} {K : Int32 → XS → Prop} {KC KE : Int32 × MS × XS → Prop} (h : GS σ x ρ 4 n n4 n5 0) (hz : LZ μ n (sdt ρ n)) (hk : LWk μ ρ n5) (hW : LWd μ ρ n4) (hN : LN ρ n) (hf : isF (JJ (sdt ρ n) n) k) (hg : AL (sdt ρ n) n k (μ.2 4)) (hC : ∀ τ, GS τ x ρ 4 n n4 n5 0 → KC (nI k + 1, μ, τ)) : w_L_right_l119_157 x p4 p5 K w8 μw σw KC KE (nI k) 0 μ σ := by
  unfold w_L_right_l119_157
  refine ⟨fun M v => ∃ a, a ≤ 8 ∧ 9 ≤ M + a ∧ v = nI a, ⟨0, by omega, by omega, rfl⟩, fun v hv => ?_, fun M v hv => ?_⟩
  · obtain ⟨a, g1, g2, -⟩ := hv
    omega
  obtain ⟨a, g1, g2, g3⟩ := hv
  subst g3
  unfold b_L_right_157
  refine oif_i (fun y => wr_189 h hz hk hW hN hf hg hC) (fun y => ?_)
  have ha : a < 8 := by
    rcases Nat.lt_or_ge a 8 with z | z
    · exact z
    · exact absurd (nI_le (a := 8) z (by omega)) y
  obtain ⟨o1, o2⟩ := v_told h hf hg ha
  refine ⟨o1, _, o2, in_n (by omega) (by omega), oif_i (fun _ => ⟨a + 1, by omega, by omega, (nI_succ a).symm⟩) (fun z => absurd ?_ z)⟩
  rw [ix_n (by omega), lg_cmp_eq]
  rfl
theorem wr_119 {μ ρ : MS} {σ : XS} {x n n4 n5 : Nat} {p5 : Int32} {K : Int32 → XS → Prop} (h : GS σ x ρ 4 n n4 n5 0) (hz : LZ μ n (sdt ρ n)) (hk : LWk μ ρ n5) (hW : LWd μ ρ n4) (hN : LN ρ n) (hK : ∀ τ, GS τ x ρ 4 n n4 n5 0 → K 1 τ) : w_L_right_m119 x (nI n) p5 K 0 μ σ := by
  have hn := hz.1
  have hs := gs_sok h
  unfold w_L_right_m119
  refine ⟨fun M v => ∃ k, k ≤ n ∧ n + 1 ≤ M + k ∧ v.1 = nI k ∧ KPr μ v.2.1 ∧ GS v.2.2 x ρ 4 n n4 n5 0, ⟨0, by omega, by omega, rfl, ⟨rfl, rfl, rfl⟩, h⟩, fun v hv => ?_, fun M v hv => ?_⟩
  · obtain ⟨k, g1, g2, -⟩ := hv
    omega
  obtain ⟨w8, μ', σ'⟩ := v
  obtain ⟨k, g1, g2, g3, g4, g5⟩ := hv
  dsimp only at g3 g4 g5 ⊢
  subst g3
  unfold b_L_right_119
  refine oif_i (fun y => ?_) (fun y => ?_)
  · unfold w_L_right_m339
    exact hK σ' g5
  · have hkn : k < n := by
      rcases Nat.lt_or_ge k n with z | z
      · exact z
      · exact absurd (nI_le z (by omega)) y
    refine ⟨fun v => (v = nI k ∧ isF (JJ (sdt ρ n) n) k) ∨ (¬ v = nI k ∧ ¬ isF (JJ (sdt ρ n) n) k), wgroup (kp_lz g4 hz) hs hkn (fun z => ?_) (fun z => ?_), fun v hv => ?_⟩
    · have hl := low_le (JJ (sdt ρ n) n) k
      by_cases e : low (JJ (sdt ρ n) n) k = k
      · exact Or.inl ⟨by rw [e], z, e⟩
      · exact Or.inr ⟨fun q => e ((nI_eq (by omega) (by omega)).mp q), fun q => e q.2⟩
    · exact Or.inr ⟨fun q => nI_m1 (k := k) (by omega) q.symm, fun q => z q.1⟩
    rcases hv with ⟨c1, c2⟩ | ⟨c1, c2⟩
    · refine oif_i (fun _ => ?_) (fun z => absurd c1 z)
      refine ⟨fun g => AL (sdt ρ n) n k g, wall (kp_lz g4 hz) hs c2 (fun g hg => hg), fun g hg => ?_⟩
      have kq : KPr μ (mQ μ' 4 g) := g4
      exact wr_157 g5 (kp_lz kq hz) (kp_lwk kq hk) (kp_lw kq hW) hN c2 hg (fun τ hτ => ⟨k + 1, hkn, by omega, (nI_succ k).symm, kq, hτ⟩)
    · refine oif_i (fun q => absurd q c1) (fun _ => ?_)
      unfold w_L_right_l119_333
      exact ⟨k + 1, hkn, by omega, (nI_succ k).symm, g4, g5⟩
theorem wr_79 {μ ρ : MS} {σ : XS} {x n n4 n5 : Nat} {p5 : Int32} {K : Int32 → XS → Prop} (h : GS σ x ρ 4 n n4 n5 0) (hz : LZ μ n (sdt ρ n)) (hk : LWk μ ρ n5) (hW : LWd μ ρ n4) (hN : LN ρ n) (hc : ∀ a, a < 4 → mi μ 3 a = nI (cdn (cf (sdt ρ n) n (nI a) (nI a) 0) n)) (hK : ∀ τ, GS τ x ρ 4 n n4 n5 0 → K 1 τ) : w_L_right_m79 x (nI n) p5 K μ σ := by
  unfold w_L_right_m79 w_L_right_m82
  refine ⟨fun M v => ∃ a, a ≤ 4 ∧ 5 ≤ M + a ∧ v = nI a, ⟨0, by omega, by omega, rfl⟩, fun v hv => ?_, fun M v hv => ?_⟩
  · obtain ⟨a, g1, g2, -⟩ := hv
    omega
  obtain ⟨a, g1, g2, g3⟩ := hv
  subst g3
  unfold b_L_right_82
  refine oif_i (fun y => ?_) (fun y => ?_)
  · have kq : KPr μ (mZJ μ 4) := ⟨rfl, rfl, rfl⟩
    unfold w_L_right_m110
    exact wr_119 h (kp_lz kq hz) (kp_lwk kq hk) (kp_lw kq hW) hN hK
  · have ha : a < 4 := by
      rcases Nat.lt_or_ge a 4 with z | z
      · exact z
      · exact absurd (nI_le (a := 4) z (by omega)) y
    obtain ⟨o1, o2⟩ := v_balls (p := nI a) h (rng_of (L := 0) (H := 3649) rfl rfl (by rw [nI_toInt (by omega)]; omega))
    refine ⟨o1, _, o2, in_n (by omega) (by omega), oif_i (fun _ => ⟨a + 1, by omega, by omega, (nI_succ a).symm⟩) (fun z => absurd ?_ z)⟩
    rw [ix_n (by omega), hc a ha]
theorem wright {μ ρ : MS} {σ : XS} {x n n4 n5 : Nat} {p5 : Int32} {K : Int32 → XS → Prop} (h : GS σ x ρ 4 n n4 n5 0) (hz : LZ μ n (sdt ρ n)) (hk : LWk μ ρ n5) (hW : LWd μ ρ n4) (hN : LN ρ n) (hK : ∀ τ, GS τ x ρ 4 n n4 n5 0 → K 1 τ) : w_L_right μ σ x (nI n) p5 K := by
  have hn := hz.1
  have h60 : n ≤ 60 := by omega
  have hs := gs_sok h
  unfold w_L_right w_L_right_m8
  refine ⟨fun M v => ∃ k, k ≤ n ∧ n + 1 ≤ M + k ∧ v.1 = nI k ∧ KPr μ v.2.1 ∧ GS v.2.2 x ρ 4 n n4 n5 0 ∧ ∀ a, a < 4 → mi v.2.1 3 a = nI (cdn (cf (sdt ρ n) n (nI a) (nI a) 0) k), ⟨0, by omega, by omega, rfl, ⟨rfl, rfl, rfl⟩, h, fun a _ => rfl⟩, fun v hv => ?_, fun M v hv => ?_⟩
  · obtain ⟨k, g1, g2, -⟩ := hv
    omega
  obtain ⟨w7, μ', σ'⟩ := v
  obtain ⟨k, g1, g2, g3, g4, g5, g6⟩ := hv
  dsimp only at g3 g4 g5 g6 ⊢
  subst g3
  unfold b_L_right_8
  refine oif_i (fun y => ?_) (fun y => ?_)
  · have e : k = n := by
      have := (nI_leI (by omega) (by omega)).mp y
      omega
    subst e
    exact wr_79 g5 (kp_lz g4 hz) (kp_lwk g4 hk) (kp_lw g4 hW) hN g6 hK
  · have hkn : k < n := by
      rcases Nat.lt_or_ge k n with z | z
      · exact z
      · exact absurd (nI_le z (by omega)) y
    have hz' := kp_lz g4 hz
    refine ⟨fun v => (jd (JJ (sdt ρ n) n) k → v = nI (low (JJ (sdt ρ n) n) k)) ∧ (¬ jd (JJ (sdt ρ n) n) k → v = -1), wgroup hz' hs hkn (fun z => ⟨fun _ => rfl, fun y => absurd z y⟩) (fun z => ⟨fun y => absurd y z, fun _ => rfl⟩), fun v hv => ?_⟩
    obtain ⟨v1, v0⟩ := hv
    obtain ⟨o1, o2, o3⟩ := v_fireball g5 hkn
    have eF : f_X10_fireball σ' x (nI k) = .ok v := by
      by_cases c : jd (JJ (sdt ρ n) n) k
      · rw [v1 c]
        exact o2 c
      · rw [v0 c]
        exact o3 c
    have eI : v = nI k ↔ isF (JJ (sdt ρ n) n) k := by
      have hl := low_le (JJ (sdt ρ n) n) k
      constructor
      · intro e
        by_cases c : jd (JJ (sdt ρ n) n) k
        · rw [v1 c] at e
          exact ⟨c, (nI_eq (by omega) (by omega)).mp e⟩
        · rw [v0 c] at e
          exact absurd e.symm (nI_m1 (by omega))
      · intro e
        rw [v1 e.1, e.2]
    obtain ⟨a1, a2⟩ := v_anew g5 hkn
    refine ⟨o1, v, eF, oif_i (fun _ => ⟨a1, fun N hN' hN0 => ?_⟩) (fun z => absurd rfl z)⟩
    obtain ⟨u, τ, u1, u2, u3, u4⟩ := a2 N hN' hN0
    have eu : u = v := by
      by_cases c : jd (JJ (sdt ρ n) n) k
      · rw [u3 c, v1 c]
      · rw [u4 c, v0 c]
    refine ⟨u, τ, u1, oif_i (fun _ => oif_i (fun ef => ?_) (fun ef => ?_)) (fun z => absurd eu z)⟩
    · have hF := eI.mp ef
      obtain ⟨r1, -⟩ := z_rd hz' hkn
      obtain ⟨nt, hnt, ent⟩ := hN k hkn
      have w1 : vp_in (9 * nI k + 1) 64 := (z_in (b := 1) (by omega) (by omega)).1
      rw [r1, ent]
      have w4 : vp_in (nI nt) 4 := in_n (by omega) (by omega)
      refine ⟨w1, w4, w4, ?_⟩
      unfold w_L_right_l8_73
      refine ⟨k + 1, hkn, by omega, (nI_succ k).symm, g4, u2, fun a ha => ?_⟩
      rw [ix_n (by omega)]
      show mi (mI μ' 3 nt (mi μ' 3 nt + 1)) 3 a = nI (cdn (cf (sdt ρ n) n (nI a) (nI a) 0) k + if cf (sdt ρ n) n (nI a) (nI a) 0 k = true then 1 else 0)
      rw [mi_at]
      by_cases c : a = nt
      · rw [if_pos c, if_pos ((cf_at hs h60).mpr ⟨hF, by rw [c]; exact ent⟩), g6 nt (by omega), nI_1, c]
      · rw [if_neg c, if_neg (fun z => ?_), Nat.add_zero]
        · exact g6 a ha
        · have q := ((cf_at hs h60).mp z).2
          rw [ent] at q
          exact c ((nI_eq (by omega) (by omega)).mp q).symm
    · have hF : ¬ isF (JJ (sdt ρ n) n) k := fun z => ef (eI.mpr z)
      unfold w_L_right_l8_73
      refine ⟨k + 1, hkn, by omega, (nI_succ k).symm, g4, u2, fun a ha => ?_⟩
      show mi μ' 3 a = nI (cdn (cf (sdt ρ n) n (nI a) (nI a) 0) k + if cf (sdt ρ n) n (nI a) (nI a) 0 k = true then 1 else 0)
      rw [if_neg (fun z => hF ((cf_at hs h60).mp z).1), Nat.add_zero]
      exact g6 a ha

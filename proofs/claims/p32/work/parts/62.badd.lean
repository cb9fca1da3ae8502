/-! ===== a stone more ===== -/
theorem cnt_c {f g : Nat → Int32} {v : Int32} : ∀ n, (∀ k, k < n → f k = g k) → cnt f v n = cnt g v n
  | 0, _ => rfl
  | n + 1, e => by
    show cnt f v n + (if f n = v then 1 else 0) = cnt g v n + (if g n = v then 1 else 0)
    rw [cnt_c n (fun k hk => e k (by omega)), e n (by omega)]
theorem cnt_le {f : Nat → Int32} {v : Int32} : ∀ n, cnt f v n ≤ n
  | 0 => Nat.le_refl 0
  | n + 1 => by
    have := cnt_le (f := f) (v := v) n
    show cnt f v n + (if f n = v then 1 else 0) ≤ n + 1
    split <;> omega
theorem cnt_u {f g : Nat → Int32} {v : Int32} {j : Nat} (h1 : ¬ f j = v) (h2 : g j = v) (h3 : ∀ k, k ≠ j → g k = f k) : ∀ n, j < n → cnt g v n = cnt f v n + 1
  | 0, h => absurd h (Nat.not_lt_zero _)
  | n + 1, h => by
    show cnt g v n + (if g n = v then 1 else 0) = cnt f v n + (if f n = v then 1 else 0) + 1
    by_cases e : n = j
    · subst e
      rw [if_pos h2, if_neg h1, cnt_c n (fun k hk => h3 k (by omega))]
    · rw [cnt_u h1 h2 h3 n (by omega), h3 n e]; omega
def MQs (n6 : Nat) (μ μM : MS) : Prop := (∀ k, k ≠ 0 → k ≠ 56 → k ≠ 57 → k ≠ 58 → k ≠ 59 → μM.1 k = μ.1 k) ∧ ∀ k i, k ≠ 0 → i ≠ n6 → mi μM k i = mi μ k i
theorem mqs_eq {n6 : Nat} {μ μM : MS} (h : MQs n6 μ μM) : μM = (fun k => if k = 0 ∨ k = 56 ∨ k = 57 ∨ k = 58 ∨ k = 59 then μM.1 k else μ.1 k, μM.2) := by
  refine Prod.ext ?_ rfl
  funext a
  show μM.1 a = if _ then _ else _
  split
  · rfl
  · exact h.1 a (fun e => by simp_all) (fun e => by simp_all) (fun e => by simp_all) (fun e => by simp_all) (fun e => by simp_all)
def addM (μ : MS) (n6 : Nat) (p1 p2 p3 p4 p5 p6 : Int32) : MS := mI (mI (mI (mI (mI (mI (mI (mI (mI μ 47 n6 p1) 48 n6 p2) 49 n6 p3) 50 n6 p4) 51 n6 p5) 53 n6 (-1)) 54 n6 p6) 60 n6 (-1)) 46 0 (nI n6 + 1)
theorem adds_i {μ : MS} {n6 : Nat} (h : mi μ 46 0 = nI n6) (hn : n6 < 40) (p1 p2 p3 p4 p5 p6 : Int32) : f_X11_adds μ p1 p2 p3 p4 p5 p6 = (nI n6, addM μ n6 p1 p2 p3 p4 p5 p6) ∧ of_X11_adds μ p1 p2 p3 p4 p5 p6 := by
  have hix : ix (mi μ 46 0) = n6 := by rw [h]; exact clamp_nI (by omega)
  have v : vp_in (mi μ 46 0) 40 := by rw [h]; exact nI_in hn (by decide)
  constructor
  · unfold f_X11_adds f_X11_adds_52
    show ((mi μ 46 0 + 1) - 1, mI (mI (mI (mI (mI (mI (mI (mI (mI μ 47 (ix (mi μ 46 0)) p1) 48 (ix (mi μ 46 0)) p2) 49 (ix (mi μ 46 0)) p3) 50 (ix (mi μ 46 0)) p4) 51 (ix (mi μ 46 0)) p5) 53 (ix (mi μ 46 0)) (-1)) 54 (ix (mi μ 46 0)) p6) 60 (ix (mi μ 46 0)) (-1)) 46 0 (mi μ 46 0 + 1)) = _
    rw [hix, h]
    unfold addM
    rw [← nI_succ, nI_pred]
  · exact ⟨v, v, v, v, v, v, v, v, trivial⟩
theorem stone_add {σ : XS} {x : Nat} {μ μM : MS} {n0 n1 n2 n4 n5 n6 nq : Nat} {a b nt gr ow fr : Int32} (h : Rep0 σ x μ n0 n1 n2 n4 n5 n6) (hM : MQs n6 μ μM) (hn : n6 < 40) (hk : xk σ nq = 8) (hne : ∀ i, i < n6 → xe σ 6 i ≠ nq) (hq0 : nq ≠ 0) (f160 : xi σ 160 nq = nI n6) (f161 : xi σ 161 nq = a) (f162 : xi σ 162 nq = b) (f163 : xi σ 163 nq = nt) (f165 : xi σ 165 nq = gr) (f166 : xi σ 166 nq = 0) (f167 : xi σ 167 nq = ow) (f168 : xi σ 168 nq = 0) (f169 : xi σ 169 nq = -1) (f173 : xi σ 173 nq = -1) (f175 : xi σ 175 nq = 0) (ra : rng 0 99 a) (rb : rng 0 99 b) (rn : rng 0 3649 nt) (ho : fr = -1 ∧ xr σ 164 nq = 0 ∨ ∃ c, c < n6 ∧ fr = nI c ∧ xr σ 164 nq = xe σ 6 c) (hmin : mi μM 56 n6 = 0 ∧ xi σ 170 nq = -1 ∨ mi μM 56 n6 = 1 ∧ xi σ 170 nq = mi μM 57 n6 ∧ rng 0 1000 (mi μM 57 n6) ∧ xi σ 171 nq = mi μM 58 n6 ∧ rng 0 9 (mi μM 58 n6) ∧ xi σ 172 nq = mi μM 59 n6 ∧ rng 0 9 (mi μM 59 n6)) : Rep0 (xAdd σ 6 nq) x (addM μM n6 a b nt gr ow fr) n0 n1 n2 n4 n5 (n6 + 1) := by
  obtain ⟨a0, ac, al, ab, as', aw, ak, at', ala, an, ar, a3, x5, x6, x9⟩ := h
  obtain ⟨c1, c2, c3, c4, c5, c6⟩ := at'
  have hxe : ∀ k, k < n6 → xe (xAdd σ 6 nq) 6 k = xe σ 6 k := fun k hk => add_xe (Or.inr (by rw [c5.1]; omega))
  have hlast : xe (xAdd σ 6 nq) 6 n6 = nq := by have := add_last σ 6 nq; rw [c5.1] at this; exact this
  have mo : ∀ k i, k ≠ 0 → i ≠ n6 → mi μM k i = mi μ k i := hM.2
  have mz : ∀ k i, k ≠ 0 → k ≠ 56 → k ≠ 57 → k ≠ 58 → k ≠ 59 → mi μM k i = mi μ k i := fun k i h0 h1 h2 h3 h4 => by
    show μM.1 k i = μ.1 k i
    rw [hM.1 k h0 h1 h2 h3 h4]
  -- the reference's fields behind
  have m46 : mi (addM μM n6 a b nt gr ow fr) 46 0 = nI (n6 + 1) := by
    show mi (mI _ 46 0 (nI n6 + 1)) 46 0 = _
    rw [mi_at, if_pos rfl, nI_succ]
  have m47 : ∀ i, mi (addM μM n6 a b nt gr ow fr) 47 i = if i = n6 then a else mi μM 47 i := fun i => by
    show mi (mI μM 47 n6 a) 47 i = _
    rw [mi_at]
  have m48 : ∀ i, mi (addM μM n6 a b nt gr ow fr) 48 i = if i = n6 then b else mi μM 48 i := fun i => by
    show mi (mI μM 48 n6 b) 48 i = _
    rw [mi_at]
  have m49 : ∀ i, mi (addM μM n6 a b nt gr ow fr) 49 i = if i = n6 then nt else mi μM 49 i := fun i => by
    show mi (mI μM 49 n6 nt) 49 i = _
    rw [mi_at]
  have m50 : ∀ i, mi (addM μM n6 a b nt gr ow fr) 50 i = if i = n6 then gr else mi μM 50 i := fun i => by
    show mi (mI μM 50 n6 gr) 50 i = _
    rw [mi_at]
  have m51 : ∀ i, mi (addM μM n6 a b nt gr ow fr) 51 i = if i = n6 then ow else mi μM 51 i := fun i => by
    show mi (mI μM 51 n6 ow) 51 i = _
    rw [mi_at]
  have m53 : ∀ i, mi (addM μM n6 a b nt gr ow fr) 53 i = if i = n6 then -1 else mi μM 53 i := fun i => by
    show mi (mI μM 53 n6 (-1)) 53 i = _
    rw [mi_at]
  have m54 : ∀ i, mi (addM μM n6 a b nt gr ow fr) 54 i = if i = n6 then fr else mi μM 54 i := fun i => by
    show mi (mI μM 54 n6 fr) 54 i = _
    rw [mi_at]
  have m60 : ∀ i, mi (addM μM n6 a b nt gr ow fr) 60 i = if i = n6 then -1 else mi μM 60 i := fun i => by
    show mi (mI μM 60 n6 (-1)) 60 i = _
    rw [mi_at]
  have hst : RSto (xAdd σ 6 nq) (addM μM n6 a b nt gr ow fr) (n6 + 1) := by
    refine ⟨by omega, fun i hi => ?_, fun i hi => ?_, m46, add_lst c5 hk hne, fun i hi => ?_⟩
    · by_cases e : i = n6
      · rw [e, hlast]; exact hq0
      · rw [hxe i (by omega)]; exact c2 i (by omega)
    · obtain ⟨d1, d2, d3, d4⟩ := c3 i (by omega)
      exact ⟨(mo 52 i (by decide) (by omega)).trans d1, (mo 55 i (by decide) (by omega)).trans d2, (mo 56 i (by decide) (by omega)).trans d3, (mo 61 i (by decide) (by omega)).trans d4⟩
    · rw [m47, m48, m49, m50, m51, m53, m54, m60]
      show xi σ 160 (xe (xAdd σ 6 nq) 6 i) = nI i ∧ xi σ 161 (xe (xAdd σ 6 nq) 6 i) = _ ∧ xi σ 162 (xe (xAdd σ 6 nq) 6 i) = _ ∧ xi σ 163 (xe (xAdd σ 6 nq) 6 i) = _ ∧ xi σ 165 (xe (xAdd σ 6 nq) 6 i) = _ ∧ xi σ 166 (xe (xAdd σ 6 nq) 6 i) = mi μM 55 i ∧ xi σ 167 (xe (xAdd σ 6 nq) 6 i) = _ ∧ xi σ 168 (xe (xAdd σ 6 nq) 6 i) = mi μM 52 i ∧ xi σ 169 (xe (xAdd σ 6 nq) 6 i) = _ ∧ xi σ 175 (xe (xAdd σ 6 nq) 6 i) = mi μM 61 i ∧ zb (mi μM 61 i) ∧ rng 0 99 _ ∧ rng 0 99 _ ∧ rng 0 3649 _ ∧ (_ ∧ xr σ 164 (xe (xAdd σ 6 nq) 6 i) = 0 ∨ ∃ c, c < i ∧ _ ∧ xr σ 164 (xe (xAdd σ 6 nq) 6 i) = xe (xAdd σ 6 nq) 6 c) ∧ (mi μM 56 i = 0 ∧ xi σ 170 (xe (xAdd σ 6 nq) 6 i) = -1 ∨ mi μM 56 i = 1 ∧ xi σ 170 (xe (xAdd σ 6 nq) 6 i) = mi μM 57 i ∧ rng 0 1000 (mi μM 57 i) ∧ xi σ 171 (xe (xAdd σ 6 nq) 6 i) = mi μM 58 i ∧ rng 0 9 (mi μM 58 i) ∧ xi σ 172 (xe (xAdd σ 6 nq) 6 i) = mi μM 59 i ∧ rng 0 9 (mi μM 59 i)) ∧ (xi σ 173 (xe (xAdd σ 6 nq) 6 i) = -1 ∧ _ ∨ rng 0 9 (xi σ 173 (xe (xAdd σ 6 nq) 6 i)) ∧ rng 1 40 (xi σ 174 (xe (xAdd σ 6 nq) 6 i)) ∧ _ = 100 * xi σ 173 (xe (xAdd σ 6 nq) 6 i) + xi σ 174 (xe (xAdd σ 6 nq) 6 i))
      by_cases e : i = n6
      · simp only [if_pos e]
        rw [e, hlast]
        obtain ⟨d1, d2, d3, d4⟩ := c3 n6 (Nat.le_refl _)
        refine ⟨f160, f161, f162, f163, f165, ?_, f167, ?_, f169, ?_, ?_, ra, rb, rn, ?_, hmin, Or.inl ⟨f173, trivial⟩⟩
        · rw [f166, mz 55 n6 (by decide) (by decide) (by decide) (by decide) (by decide)]; exact d2.symm
        · rw [f168, mz 52 n6 (by decide) (by decide) (by decide) (by decide) (by decide)]; exact d1.symm
        · rw [f175, mz 61 n6 (by decide) (by decide) (by decide) (by decide) (by decide)]; exact d4.symm
        · rw [mz 61 n6 (by decide) (by decide) (by decide) (by decide) (by decide), d4]; exact Or.inl rfl
        · rcases ho with o | ⟨c, o1, o2, o3⟩
          · exact Or.inl o
          · exact Or.inr ⟨c, o1, o2, by rw [hxe c o1]; exact o3⟩
      · simp only [if_neg e]
        have hi6 : i < n6 := by omega
        rw [hxe i hi6, mo 47 i (by decide) e, mo 48 i (by decide) e, mo 49 i (by decide) e, mo 50 i (by decide) e, mo 51 i (by decide) e, mo 53 i (by decide) e, mo 54 i (by decide) e, mo 60 i (by decide) e, mo 55 i (by decide) e, mo 52 i (by decide) e, mo 61 i (by decide) e, mo 56 i (by decide) e, mo 57 i (by decide) e, mo 58 i (by decide) e, mo 59 i (by decide) e]
        obtain ⟨b1, b2, b3, b4, b5, b6, b7, b8, b9, b10, b11, b12, b13, b14, b15, b16, b17⟩ := c6 i hi6
        refine ⟨b1, b2, b3, b4, b5, b6, b7, b8, b9, b10, b11, b12, b13, b14, ?_, b16, b17⟩
        rcases b15 with o | ⟨c, o1, o2, o3⟩
        · exact Or.inl o
        · exact Or.inr ⟨c, o1, o2, by rw [hxe c (by omega)]; exact o3⟩
  have hnm : RNam (xAdd σ 6 nq) (addM μM n6 a b nt gr ow fr) (n6 + 1) := by
    intro i hi
    obtain ⟨d1, d2⟩ := an i hi
    have e62 : mi (addM μM n6 a b nt gr ow fr) 62 i = mi μ 62 i := mz 62 i (by decide) (by decide) (by decide) (by decide) (by decide)
    refine ⟨d1.trans e62.symm, e62.trans (d2.trans (congrArg nI ?_))⟩
    show _ = cnt (fun k => xi σ 173 (xe (xAdd σ 6 nq) 6 k)) (nI i) n6 + (if xi σ 173 (xe (xAdd σ 6 nq) 6 n6) = nI i then 1 else 0)
    rw [hlast, f173, if_neg (fun z => nI_m1 (by omega) z.symm)]
    exact cnt_c n6 (fun k hk => by show xi σ 173 (xe σ 6 k) = xi σ 173 (xe (xAdd σ 6 nq) 6 k); rw [hxe k hk])
  rw [mqs_eq hM] at hst hnm ⊢
  exact ⟨a0, ac, al, ab, as', aw, ak, hst, ala, hnm, ar, a3, x5, x6, x9⟩
theorem sdt_addM {μ μM : MS} {n6 n2 : Nat} {a b nt gr ow fr : Int32} (hM : MQs n6 μ μM) : sdt (addM μM n6 a b nt gr ow fr) n2 = sdt μ n2 := by
  rw [mqs_eq hM]
  rfl

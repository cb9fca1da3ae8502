/-! ===== a thing is added to a list of the class's ===== -/
section XLADD
variable {p : Program} {l : Launch} {e : Env} {R : Room} {s : State} {m : MethodId} {args : Array Value} {below : List Frame} {meth : Method} {c : Code} {H : Heap} {locs : List Loc} {cells slots : Nat} {Q : State → Prop} {D : va_G} {a : Nat → ClassId} {x e0 : Nat} {A : Nat → Prop} {σ : XS} {cc : ByteArray} {nL : Nat} {pc : Nat} {ls : Array Slot} {rest : List Value}
theorem xl_inj {j j' : Nat} (h : j < 7) (h' : j' < 7) (e : xl x j = xl x j') : j = j' := by
  have key : ∀ j, j < 7 → ∀ j', j' < 7 → xl 0 j = xl 0 j' → j = j' := by decide
  refine key j h j' h' ?_
  have e1 : ∀ j, xl x j = x + xl 0 j := fun j => by unfold xl; rw [Nat.zero_add]
  rw [e1, e1] at e
  omega
theorem xl_gt (j : Nat) : x < xl x j := by
  unfold xl
  split <;> omega
theorem xl_add {j v K fr lo : Nat} {nm : String} {T : u_T} {N : Nat} (C : Cx D a p s m args c cc nL RX10) (hE : EV D a e0 A s s.heap) (hX : HX D a x e0 A σ s.heap H locs) (hj : j < 7) (hk : xk σ v = K) (hK0 : K ≠ 0) (hc : vwCl[K]? = some (nm, T, N)) (hnb : Cond.castable nm "java/lang/Object" ∈ NBW) (h100 : xn σ j ≤ 100) (hel : ∀ i, i < xn σ j → xk σ (xe σ j i) = K) (hRf : R.frames = fr) (hRl : R.locals = lo) (h1 : 6 + 1 ≤ fr) (h2 : 8 + (2 + 11) + 135 ≤ lo) (hsz : ls.size = nL) (hW : (rest.map fun v => v.category).sum ≤ 8) (hcl : cells + 1 ≤ R.cells) (hsl : slots + 300 ≤ R.slots) (hdg : decode cc pc = .ok (.invokeinterface 71 2, 5))
    (kk : ∀ H locs, HX D a x e0 A (xAdd σ j v) s.heap H locs → W p l e R s m args below meth c H locs (cells + 1) (slots + 300) Q (F0 m (pc + 5) ls (.int 1 :: rest))) : W p l e R s m args below meth c H locs cells slots Q (F0 m pc ls (.ref v :: .ref (xl x j) :: rest)) := by
  have hX0 := hX
  obtain ⟨⟨Mp, ow, hM, s1, s2, s3, s4, s5, s6⟩, hS⟩ := hX
  obtain ⟨mc, ar, r1, r2⟩ := s5 j hj
  obtain ⟨f0, hT0⟩ := hE.2.2.2.2.2.2.2.2.1
  have he0 : ¬ A e0 := hT0.out
  have hq := hM _ _ r1
  have hqs : xl x j < H.size := hq.1.lt
  have hp : ∀ z, xk σ z ≠ 0 → Mp z = some (.inr (xk σ z, xF σ (xk σ z) z)) := fun z hz => (s6 z hz).2
  have ne_l : ∀ z, xk σ z ≠ 0 → z ≠ xl x j := by
    intro z hz h
    have h3 := hp z hz
    rw [h, r1] at h3
    have h4 := congrArg Prod.fst (Sum.inr.inj (Option.some.inj h3))
    rw [← h] at h4
    exact hz h4.symm
  have ar_ne : ∀ z en, Mp z = some en → (∀ n g, en ≠ .inl (a 4, n, .inr (.inr (.inr (.inr g))))) → z ≠ ar := by
    intro z en hz hne h
    rcases r2 with ⟨h3, -⟩ | ⟨cap, g, g1, -⟩
    · exact he0 (by rw [← h3, ← h]; exact (hM z en hz).2.1)
    · rw [h, g1] at hz
      exact hne cap g (Option.some.inj hz).symm
  have hqa : xl x j ≠ ar := ar_ne _ _ r1 (fun _ _ h => by cases h)
  have ne_a : ∀ z, xk σ z ≠ 0 → z ≠ ar := fun z hz => ar_ne _ _ (hp z hz) (fun _ _ h => by cases h)
  have hv0 : xk σ v ≠ 0 := by rw [hk]; exact hK0
  have hEL : ∀ z, xk σ z = K → EL nm (xl x j) s H z := fun z hz => ⟨ne_l z (by rw [hz]; exact hK0), xr_at C hX0 hz hK0 hc⟩
  have hB : ∀ U : State, U.heap = H → s.WarmedH U.vm → AB D a e0 A nm (xl x j) mc ar (xn σ j) (xe σ j) v U := by
    intro U hU hW
    refine ⟨EV.at hE hS hW hU, hq.2.1, by rw [hU]; exact hq.1, by rw [hU]; exact (hEL v hk).moved hW.alike, ?_⟩
    rcases r2 with h | ⟨cap, g, g1, g2, g3, g4, g5, g6⟩
    · exact Or.inl h
    · exact Or.inr ⟨(hM _ _ g1).2.1, cap, g, by rw [hU]; exact (hM _ _ g1).1, g3, g4, g5, g6, fun i hi => by rw [hU]; exact (hEL _ (hel i hi)).moved hW.alike⟩
  have hcw := va_cwF (R := R) (index := 71) (own := RX10) (C := RJx4a65c) (x := yL_add) (y := yJx4a65c_add_9ea2d) (bytes := cJx4a65c_add_9ea2d) (maxL := 2) (ret := some .boolean) (mc := 1) (ms := 150) (rm := { frames := 6, cells := 1, slots := 150, locals := 135 }) 1 C.1.2.2.2.2 (tb_cons q_172 (tb_cons q_176 (tb_cons q_178 (tb_cons q_29 (tb_cons q_180 tb_self))))) rfl rfl rfl hE.2.2.2.2.2.2.1.2.2 (by decide +kernel) ⟨by rw [hRf]; exact h1, by rw [hRl]; exact h2⟩
  have hrun := va_runF (e := e) (below := below) (meth := meth) (H := H) (locs := locs) (cells := cells) (slots := slots) (g := F0 m pc ls (.ref v :: .ref (xl x j) :: rest)) (As := [.ref v]) (rest := rest) (b := xl x j) (count := 2) (C.2.1 0 _ rfl).2 C.1 (j_add1 l D a e0 A nm hnb (xl x j) mc ar (xn σ j) (xe σ j) v h100 (ne_a v hv0) hqa) hcw ⟨fun z U g mk q => ⟨q.1, ab_good.2 U g mk z q.2⟩, jl_recv C hq.1, fun U hU hW => ⟨rfl, hB U hU hW⟩⟩ rfl rfl hsz rfl (lv_room hW) hdg ⟨hcl, by omega⟩
  intro T2 hT X
  obtain ⟨v', st₀, t, T', L, h0, X', hL, e1, e2, ⟨⟨w, hw, hP⟩, hF⟩, stp⟩ := hrun T2 hT X
  cases hw
  rw [h0, ← e1] at hP
  obtain ⟨rfl, r, cap, g, f1, f2, f3, f4, f5, f6, f7, f8, f9⟩ := hP
  have hSn := (vx_keep (A1 := A) h0 e1 hS (fun q _ h => h) (fun q h => h) hL hF).2.2
  have hAr : A r ∧ 0 < r ∧ r ≠ xl x j := by
    rcases f7 with ⟨h, h'⟩ | h
    · refine ⟨by rw [h]; exact h', ?_, by rw [h]; exact fun z => hqa z.symm⟩
      rcases r2 with ⟨h3, -⟩ | ⟨cap, g, g1, -⟩
      · exact absurd (h3 ▸ h') he0
      · rw [h]; exact (hM _ _ g1).2.2
    · exact ⟨hE.2.2.2.2.2.1 r (Nat.le_trans hS.1 h), by omega, by omega⟩
  have ne_r : ∀ z en, Mp z = some en → z ≠ ar → z ≠ r := by
    intro z en hz hza
    rcases f7 with ⟨h, -⟩ | h
    · rw [h]; exact hza
    · have := (hM z en hz).1.lt
      simp only at this
      omega
  have keep : ∀ z en, Mp z = some en → z ≠ xl x j → z ≠ ar → va_up (va_up (va_up Mp ar none) (xl x j) (some (.inr (0, [.int (mc + 1), .ref r, .int (nI (xn σ j + 1))])))) r (some (.inl (a 4, cap, .inr (.inr (.inr (.inr g)))))) z = some en := by
    intro z en hz h3 h4
    rw [va_up_ne _ _ (ne_r z en hz h4), va_up_ne _ _ h3, va_up_ne _ _ h4]
    exact hz
  have hXn : XP D a x e0 A (xAdd σ j v) T'.heap := by
    refine ⟨_, va_up ow r (j + 1), ?_, keep x _ s1 (fun h => by have := xl_gt (x := x) j; omega) (ar_ne _ _ s1 (fun _ _ h => by cases h)), keep _ _ s2 (fun h => by rw [h, r1] at s2; cases s2) (ar_ne _ _ s2 (fun n g h => k34 C.2 (congrArg Prod.fst (Sum.inl.inj h)))), keep _ _ s3 (fun h => by rw [h, r1] at s3; cases s3) (ar_ne _ _ s3 (fun n g h => inl_kind h.symm)), keep _ _ s4 (fun h => by rw [h, r1] at s4; cases s4) (ar_ne _ _ s4 (fun n g h => inl_kind h.symm)), ?_, ?_⟩
    · intro z en hz
      by_cases hzr : z = r
      · subst hzr
        rw [va_up_self] at hz
        cases hz
        exact ⟨f2, hAr.1, hAr.2.1⟩
      · rw [va_up_ne _ _ hzr] at hz
        by_cases hzl : z = xl x j
        · subst hzl
          rw [va_up_self] at hz
          cases hz
          exact ⟨f1, hq.2.1, hq.2.2⟩
        · rw [va_up_ne _ _ hzl] at hz
          by_cases hza : z = ar
          · subst hza
            rw [va_up_self] at hz
            cases hz
          · rw [va_up_ne _ _ hza] at hz
            have h3 := hM z en hz
            exact ⟨h3.1.kept (f9 z h3.1.lt hzl hza), h3.2⟩
    · intro j' hj'
      by_cases hjj : j' = j
      · subst hjj
        have en : xn (xAdd σ j' v) j' = xn σ j' + 1 := va_up_self _ _ _
        refine ⟨mc + 1, r, ?_, Or.inr ⟨cap, g, va_up_self _ _ _, va_up_self _ _ _, by omega, by rw [en]; exact f3, f4, fun i hi => ?_⟩⟩
        · rw [va_up_ne _ _ (fun h => hAr.2.2 h.symm), va_up_self, en]
        · rw [en] at hi
          show g i = some (up2 σ.2.2.2.2.2 j' (xn σ j') v j' i)
          rw [up2_at, if_pos rfl]
          by_cases hin : i = xn σ j'
          · rw [if_pos hin, hin]; exact f6
          · rw [if_neg hin]; exact f5 i (by omega)
      · obtain ⟨mc2, ar2, t1, t2⟩ := s5 j' hj'
        have en : xn (xAdd σ j v) j' = xn σ j' := va_up_ne _ _ hjj
        have ee : ∀ i, xe (xAdd σ j v) j' i = xe σ j' i := fun i => up2_nk _ _ hjj
        refine ⟨mc2, ar2, by rw [en]; exact keep _ _ t1 (fun h => hjj (xl_inj hj' hj h)) (ar_ne _ _ t1 (fun _ _ h => by cases h)), ?_⟩
        rcases t2 with ⟨u1, u2⟩ | ⟨cap2, g2, u1, u2, u3, u4, u5, u6⟩
        · exact Or.inl ⟨u1, by rw [en]; exact u2⟩
        · have hne : ar2 ≠ ar := by
            intro h
            rcases r2 with ⟨h3, -⟩ | ⟨cap, g, g1, g2, -⟩
            · exact he0 (by rw [← h3, ← h]; exact (hM _ _ u1).2.1)
            · rw [h, g2] at u2
              omega
          refine Or.inr ⟨cap2, g2, keep _ _ u1 (fun h => by rw [h, r1] at u1; cases u1) hne, ?_, u3, by rw [en]; exact u4, u5, fun i hi => by rw [ee]; exact u6 i (by rw [en] at hi; exact hi)⟩
          rw [va_up_ne _ _ (ne_r _ _ u1 hne)]
          exact u2
    · intro z hz
      have h3 := s6 z hz
      exact ⟨h3.1, keep z _ h3.2 (ne_l z hz) (ne_a z hz)⟩
  obtain ⟨t2, a1, b1⟩ := (W.widen (k := cells + 1) (n := slots + 300) (Nat.le_refl _) (show slots + 150 ≤ slots + 300 by omega) (kk T'.heap (locs ++ L) ⟨hXn, hSn⟩)) T' rfl X'
  exact ⟨t2, stp t2 a1, b1⟩
end XLADD


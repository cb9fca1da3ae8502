def w_L_law_m1112 (x : Nat) (K : Int32 → Prop) (v7_1112 : Int32) (v8_1112 : Int32) (v9_1112 : Int32) (v10_1112 : Int32) (μ_1112 : MS) (σ_1112 : XS) : Prop := ((∀ nq, xk σ_1112 nq = 0 → of_X10_find σ_1112 x nq v7_1112 v8_1112 v9_1112 100 1) ∧ (rcl (fun nq => f_X10_find σ_1112 x nq v7_1112 v8_1112 v9_1112 100 1) σ_1112 (fun v9_8 σ9_9 => (oif (v9_8 = 0) (of_X10_fall σ9_9 x 0 ∧ (rcl (fun _ => f_X10_fall σ9_9 x 0) σ9_9 (fun v9_12 σ9_13 => (oif (v9_12 = v10_1112) (K 1) (K 0))))) (K 0)))))
def w_L_law_l1017_1106 (x : Nat) (K : Int32 → Prop) (v5_1017 : Int32) (v7_1017 : Int32) (v8_1017 : Int32) (v9_1017 : Int32) (σ_1017 : XS) (w10_1017 : Int32) (w11_1017 : Int64) (w14_1017 : Int32) (μw_1017 : MS) (KC : (Int32 × Int64 × Int32 × MS) → Prop) (KE : (Int32 × Int64 × Int32 × MS) → Prop) (v10_1106 : Int32) (v11_1106 : Int64) (v14_1106 : Int32) (μ_1106 : MS) : Prop := (KC (v10_1106, v11_1106, (v14_1106 + 1), μ_1106))
def b_L_law_1017 (x : Nat) (K : Int32 → Prop) (v5_1017 : Int32) (v7_1017 : Int32) (v8_1017 : Int32) (v9_1017 : Int32) (σ_1017 : XS) (w10_1017 : Int32) (w11_1017 : Int64) (w14_1017 : Int32) (μw_1017 : MS) (KC : (Int32 × Int64 × Int32 × MS) → Prop) (KE : (Int32 × Int64 × Int32 × MS) → Prop) : Prop := (oif (v5_1017 ≤ w14_1017) (KE (w10_1017, w11_1017, w14_1017, μw_1017)) (wcal (w_L_group μw_1017 v5_1017 w14_1017) (fun v9_24 => (oif (v9_24 = w14_1017) (vp_in ((9 * w14_1017) + 1) 64 ∧ (oif ((mi μw_1017 1 (ix ((9 * w14_1017) + 1))) ≤ v9_1017) (wcal (w_L_all μw_1017 v5_1017 w14_1017) (fun gq_32 => (vp_in ((9 * w14_1017) + 1) 64 ∧ (wcal (w_L_chance (mQ μw_1017 4 gq_32) (mi μw_1017 1 (ix ((9 * w14_1017) + 1))) w14_1017 v7_1017 v8_1017) (fun v9_38 => (oif ((lg_cmp v9_38 w11_1017) ≤ 0) (w_L_law_l1017_1106 x K v5_1017 v7_1017 v8_1017 v9_1017 σ_1017 w10_1017 w11_1017 w14_1017 μw_1017 KC KE w10_1017 w11_1017 w14_1017 (mQ μw_1017 4 gq_32)) (w_L_law_l1017_1106 x K v5_1017 v7_1017 v8_1017 v9_1017 σ_1017 w10_1017 w11_1017 w14_1017 μw_1017 KC KE w14_1017 v9_38 w14_1017 (mQ μw_1017 4 gq_32)))))))) (w_L_law_l1017_1106 x K v5_1017 v7_1017 v8_1017 v9_1017 σ_1017 w10_1017 w11_1017 w14_1017 μw_1017 KC KE w10_1017 w11_1017 w14_1017 μw_1017))) (w_L_law_l1017_1106 x K v5_1017 v7_1017 v8_1017 v9_1017 σ_1017 w10_1017 w11_1017 w14_1017 μw_1017 KC KE w10_1017 w11_1017 w14_1017 μw_1017)))))
def w_L_law_m1017 (x : Nat) (K : Int32 → Prop) (v5_1017 : Int32) (v7_1017 : Int32) (v8_1017 : Int32) (v9_1017 : Int32) (v10_1017 : Int32) (v11_1017 : Int64) (v14_1017 : Int32) (μ_1017 : MS) (σ_1017 : XS) : Prop := (winv 8 (fun (v : Int32 × Int64 × Int32 × MS) KC KE => b_L_law_1017 x K v5_1017 v7_1017 v8_1017 v9_1017 σ_1017 v.1 v.2.1 v.2.2.1 v.2.2.2 KC KE) (v10_1017, v11_1017, v14_1017, μ_1017) (fun (v : Int32 × Int64 × Int32 × MS) => (w_L_law_m1112 x K v7_1017 v8_1017 v9_1017 v.1 v.2.2.2 σ_1017)))
def w_L_law_m960 (x : Nat) (K : Int32 → Prop) (v5_960 : Int32) (v6_960 : Int32) (μ_960 : MS) (σ_960 : XS) : Prop := (¬ v6_960 < 0 ∧ (∀ v9_2 : Int32, (¬ (v6_960 + 1) < 0 ∧ (∀ v9_4 : Int32, (¬ (v6_960 + 2) < 0 ∧ (∀ v9_6 : Int32, (w_L_law_m1017 x K v5_960 (f_L_low v9_2 100) (f_L_low v9_4 100) (f_L_low v9_6 2) (-1) 0 0 (mZJ μ_960 4) σ_960)))))))
def w_L_law_l140_954 (x : Nat) (K : Int32 → Prop) (w5_140 : Int32) (w6_140 : Int32) (w7_140 : Int32) (μw_140 : MS) (σw_140 : XS) (KC : (Int32 × Int32 × Int32 × MS × XS) → Prop) (KE : (Int32 × Int32 × Int32 × MS × XS) → Prop) (v5_954 : Int32) (v6_954 : Int32) (v7_954 : Int32) (μ_954 : MS) (σ_954 : XS) : Prop := (KC (v5_954, v6_954, (v7_954 + 1), μ_954, σ_954))
def w_L_law_l140_928 (x : Nat) (K : Int32 → Prop) (w5_140 : Int32) (w6_140 : Int32) (w7_140 : Int32) (μw_140 : MS) (σw_140 : XS) (KC : (Int32 × Int32 × Int32 × MS × XS) → Prop) (KE : (Int32 × Int32 × Int32 × MS × XS) → Prop) (v5_928 : Int32) (v6_928 : Int32) (v7_928 : Int32) (v9_928 : Int32) (μ_928 : MS) (σ_928 : XS) : Prop := (oif ((v7_928 - v7_928 / 2 * 2) = 0) (wcal2 (w_L_right μ_928 σ_928 x v5_928 (v9_928 >>> ((5 : Int32) &&& 31))) (fun v9_65 σ9_66 => (oif (v9_65 = 0) (K 0) (w_L_law_l140_954 x K w5_140 w6_140 w7_140 μw_140 σw_140 KC KE v5_928 v6_928 v7_928 μ_928 σ9_66)))) (w_L_law_l140_954 x K w5_140 w6_140 w7_140 μw_140 σw_140 KC KE v5_928 v6_928 v7_928 μ_928 σ_928))
def w_L_law_l140_883 (x : Nat) (K : Int32 → Prop) (w5_140 : Int32) (w6_140 : Int32) (w7_140 : Int32) (μw_140 : MS) (σw_140 : XS) (KC : (Int32 × Int32 × Int32 × MS × XS) → Prop) (KE : (Int32 × Int32 × Int32 × MS × XS) → Prop) (v5_883 : Int32) (v6_883 : Int32) (v7_883 : Int32) (v9_883 : Int32) (v10_883 : Int32) (v12_883 : Int32) (v13_883 : Int32) (v14_883 : Int32) (μ_883 : MS) (σ_883 : XS) : Prop := (vp_in (v14_883 + 3) 64 ∧ ((∀ nq, xk σ_883 nq = 0 → of_X10_walk σ_883 x nq v10_883 v12_883 v13_883 (mi μ_883 2 (ix (v14_883 + 3)))) ∧ (rcl (fun nq => f_X10_walk σ_883 x nq v10_883 v12_883 v13_883 (mi μ_883 2 (ix (v14_883 + 3)))) σ_883 (fun v9_88 σ9_89 => (vp_in ((9 * v10_883) + 1) 64 ∧ (wcal (w_L_chance μ_883 (mi μ_883 1 (ix ((9 * v10_883) + 1))) v10_883 v12_883 v13_883) (fun v9_95 => (oif ((lg_cmp v9_88 v9_95) = 0) (w_L_law_l140_928 x K w5_140 w6_140 w7_140 μw_140 σw_140 KC KE v5_883 v6_883 v7_883 v9_883 μ_883 σ9_89) (K 0)))))))))
def w_L_law_l140_874 (x : Nat) (K : Int32 → Prop) (w5_140 : Int32) (w6_140 : Int32) (w7_140 : Int32) (μw_140 : MS) (σw_140 : XS) (KC : (Int32 × Int32 × Int32 × MS × XS) → Prop) (KE : (Int32 × Int32 × Int32 × MS × XS) → Prop) (v5_874 : Int32) (v6_874 : Int32) (v7_874 : Int32) (v9_874 : Int32) (v10_874 : Int32) (v12_874 : Int32) (v13_874 : Int32) (v14_874 : Int32) (μ_874 : MS) (σ_874 : XS) : Prop := (w_L_law_l140_883 x K w5_140 w6_140 w7_140 μw_140 σw_140 KC KE v5_874 v6_874 v7_874 v9_874 v10_874 v12_874 v13_874 v14_874 (mI μ_874 2 (ix 10) ((mi μ_874 2 (ix 10)) + 1)) σ_874)
def w_L_law_l140_855 (x : Nat) (K : Int32 → Prop) (w5_140 : Int32) (w6_140 : Int32) (w7_140 : Int32) (μw_140 : MS) (σw_140 : XS) (KC : (Int32 × Int32 × Int32 × MS × XS) → Prop) (KE : (Int32 × Int32 × Int32 × MS × XS) → Prop) (v5_855 : Int32) (v6_855 : Int32) (v7_855 : Int32) (v8_855 : Int32) (v9_855 : Int32) (v10_855 : Int32) (v12_855 : Int32) (v13_855 : Int32) (v14_855 : Int32) (μ_855 : MS) (σ_855 : XS) : Prop := (vp_in (v14_855 + 3) 64 ∧ (w_L_law_l140_874 x K w5_140 w6_140 w7_140 μw_140 σw_140 KC KE v5_855 v6_855 v7_855 v9_855 v10_855 v12_855 v13_855 v14_855 (mI μ_855 2 (ix (v14_855 + 3)) (1 + (f_L_low (v8_855 >>> ((20 : Int32) &&& 31)) 100))) σ_855))
def w_L_law_l140_846 (x : Nat) (K : Int32 → Prop) (w5_140 : Int32) (w6_140 : Int32) (w7_140 : Int32) (μw_140 : MS) (σw_140 : XS) (KC : (Int32 × Int32 × Int32 × MS × XS) → Prop) (KE : (Int32 × Int32 × Int32 × MS × XS) → Prop) (v5_846 : Int32) (v6_846 : Int32) (v7_846 : Int32) (v8_846 : Int32) (v9_846 : Int32) (v10_846 : Int32) (v12_846 : Int32) (v13_846 : Int32) (v14_846 : Int32) (μ_846 : MS) (σ_846 : XS) : Prop := (vp_in (v14_846 + 2) 64 ∧ (w_L_law_l140_855 x K w5_140 w6_140 w7_140 μw_140 σw_140 KC KE v5_846 v6_846 v7_846 v8_846 v9_846 v10_846 v12_846 v13_846 v14_846 (mI μ_846 2 (ix (v14_846 + 2)) v13_846) σ_846))
def w_L_law_l140_837 (x : Nat) (K : Int32 → Prop) (w5_140 : Int32) (w6_140 : Int32) (w7_140 : Int32) (μw_140 : MS) (σw_140 : XS) (KC : (Int32 × Int32 × Int32 × MS × XS) → Prop) (KE : (Int32 × Int32 × Int32 × MS × XS) → Prop) (v5_837 : Int32) (v6_837 : Int32) (v7_837 : Int32) (v8_837 : Int32) (v9_837 : Int32) (v10_837 : Int32) (v12_837 : Int32) (v13_837 : Int32) (v14_837 : Int32) (μ_837 : MS) (σ_837 : XS) : Prop := (vp_in (v14_837 + 1) 64 ∧ (w_L_law_l140_846 x K w5_140 w6_140 w7_140 μw_140 σw_140 KC KE v5_837 v6_837 v7_837 v8_837 v9_837 v10_837 v12_837 v13_837 v14_837 (mI μ_837 2 (ix (v14_837 + 1)) v12_837) σ_837))
def w_L_law_l140_815 (x : Nat) (K : Int32 → Prop) (w5_140 : Int32) (w6_140 : Int32) (w7_140 : Int32) (μw_140 : MS) (σw_140 : XS) (KC : (Int32 × Int32 × Int32 × MS × XS) → Prop) (KE : (Int32 × Int32 × Int32 × MS × XS) → Prop) (v5_815 : Int32) (v6_815 : Int32) (v7_815 : Int32) (v8_815 : Int32) (v9_815 : Int32) (v10_815 : Int32) (v12_815 : Int32) (t0_815 : Int64) (μ_815 : MS) (σ_815 : XS) : Prop := (vp_in (11 + (4 * (mi μ_815 2 (ix 10)))) 64 ∧ (w_L_law_l140_837 x K w5_140 w6_140 w7_140 μw_140 σw_140 KC KE v5_815 v6_815 v7_815 v8_815 v9_815 v10_815 v12_815 (t0_815.toInt32) (11 + (4 * (mi μ_815 2 (ix 10)))) (mI μ_815 2 (ix (11 + (4 * (mi μ_815 2 (ix 10))))) v10_815) σ_815))
def w_L_law_l140_774 (x : Nat) (K : Int32 → Prop) (w5_140 : Int32) (w6_140 : Int32) (w7_140 : Int32) (μw_140 : MS) (σw_140 : XS) (KC : (Int32 × Int32 × Int32 × MS × XS) → Prop) (KE : (Int32 × Int32 × Int32 × MS × XS) → Prop) (v5_774 : Int32) (v6_774 : Int32) (v7_774 : Int32) (v8_774 : Int32) (v9_774 : Int32) (v10_774 : Int32) (t0_774 : Int64) (μ_774 : MS) (σ_774 : XS) : Prop := (oif (0 ≤ (lg_cmp (ml μ_774 4 (ix 4)) 0)) (oif ((lg_cmp (ml μ_774 4 (ix 4)) 9900) ≤ 0) (w_L_law_l140_815 x K w5_140 w6_140 w7_140 μw_140 σw_140 KC KE v5_774 v6_774 v7_774 v8_774 v9_774 v10_774 (t0_774.toInt32) ((ml μ_774 4 (ix 4)) / 100) μ_774 σ_774) (w_L_law_l140_815 x K w5_140 w6_140 w7_140 μw_140 σw_140 KC KE v5_774 v6_774 v7_774 v8_774 v9_774 v10_774 (t0_774.toInt32) 99 μ_774 σ_774)) (w_L_law_l140_815 x K w5_140 w6_140 w7_140 μw_140 σw_140 KC KE v5_774 v6_774 v7_774 v8_774 v9_774 v10_774 (t0_774.toInt32) 0 μ_774 σ_774))
def w_L_law_l140_686 (x : Nat) (K : Int32 → Prop) (w5_140 : Int32) (w6_140 : Int32) (w7_140 : Int32) (μw_140 : MS) (σw_140 : XS) (KC : (Int32 × Int32 × Int32 × MS × XS) → Prop) (KE : (Int32 × Int32 × Int32 × MS × XS) → Prop) (v5_686 : Int32) (v6_686 : Int32) (v7_686 : Int32) (v8_686 : Int32) (v9_686 : Int32) (μ_686 : MS) (σ_686 : XS) : Prop := (¬ v5_686 = 0 ∧ (wcal (w_L_group μ_686 v5_686 (f_L_low (v9_686 >>> ((3 : Int32) &&& 31)) v5_686)) (fun v9_62 => (oif (v9_62 < 0) (w_L_law_l140_928 x K w5_140 w6_140 w7_140 μw_140 σw_140 KC KE v5_686 v6_686 v7_686 v9_686 μ_686 σ_686) (oif (6 ≤ (mi μ_686 2 (ix 10))) (w_L_law_l140_928 x K w5_140 w6_140 w7_140 μw_140 σw_140 KC KE v5_686 v6_686 v7_686 v9_686 μ_686 σ_686) (wcal (w_L_all (mZJ μ_686 4) v5_686 v9_62) (fun gq_77 => (oif (0 ≤ (lg_cmp (ml (mQ (mZJ μ_686 4) 4 gq_77) 4 (ix 3)) 0)) (oif ((lg_cmp (ml (mQ (mZJ μ_686 4) 4 gq_77) 4 (ix 3)) 9900) ≤ 0) (w_L_law_l140_774 x K w5_140 w6_140 w7_140 μw_140 σw_140 KC KE v5_686 v6_686 v7_686 v8_686 v9_686 v9_62 ((ml (mQ (mZJ μ_686 4) 4 gq_77) 4 (ix 3)) / 100) (mQ (mZJ μ_686 4) 4 gq_77) σ_686) (w_L_law_l140_774 x K w5_140 w6_140 w7_140 μw_140 σw_140 KC KE v5_686 v6_686 v7_686 v8_686 v9_686 v9_62 99 (mQ (mZJ μ_686 4) 4 gq_77) σ_686)) (w_L_law_l140_774 x K w5_140 w6_140 w7_140 μw_140 σw_140 KC KE v5_686 v6_686 v7_686 v8_686 v9_686 v9_62 0 (mQ (mZJ μ_686 4) 4 gq_77) σ_686)))))))))
def w_L_law_l140_664 (x : Nat) (K : Int32 → Prop) (w5_140 : Int32) (w6_140 : Int32) (w7_140 : Int32) (μw_140 : MS) (σw_140 : XS) (KC : (Int32 × Int32 × Int32 × MS × XS) → Prop) (KE : (Int32 × Int32 × Int32 × MS × XS) → Prop) (v5_664 : Int32) (v6_664 : Int32) (v7_664 : Int32) (v8_664 : Int32) (v9_664 : Int32) (v10_664 : Int32) (μ_664 : MS) (σ_664 : XS) : Prop := (vp_in (2 * v10_664) 64 ∧ (vp_in ((2 * v10_664) + 1) 64 ∧ ((∀ nq, xk σ_664 nq = 0 → of_X10_wind σ_664 x nq v10_664 (mi μ_664 2 (ix (2 * v10_664))) (mi μ_664 2 (ix ((2 * v10_664) + 1)))) ∧ (rcl (fun nq => f_X10_wind σ_664 x nq v10_664 (mi μ_664 2 (ix (2 * v10_664))) (mi μ_664 2 (ix ((2 * v10_664) + 1)))) σ_664 (fun _ σ9_102 => (w_L_law_l140_686 x K w5_140 w6_140 w7_140 μw_140 σw_140 KC KE v5_664 v6_664 v7_664 v8_664 v9_664 μ_664 σ9_102))))))
def w_L_law_l140_642 (x : Nat) (K : Int32 → Prop) (w5_140 : Int32) (w6_140 : Int32) (w7_140 : Int32) (μw_140 : MS) (σw_140 : XS) (KC : (Int32 × Int32 × Int32 × MS × XS) → Prop) (KE : (Int32 × Int32 × Int32 × MS × XS) → Prop) (v5_642 : Int32) (v6_642 : Int32) (v7_642 : Int32) (v8_642 : Int32) (v9_642 : Int32) (v10_642 : Int32) (μ_642 : MS) (σ_642 : XS) : Prop := (vp_in ((2 * v10_642) + 1) 64 ∧ (w_L_law_l140_664 x K w5_140 w6_140 w7_140 μw_140 σw_140 KC KE v5_642 v6_642 v7_642 v8_642 v9_642 v10_642 (mI μ_642 2 (ix ((2 * v10_642) + 1)) ((f_L_low (v9_642 >>> ((10 : Int32) &&& 31)) 41) - 20)) σ_642))
def w_L_law_l140_604 (x : Nat) (K : Int32 → Prop) (w5_140 : Int32) (w6_140 : Int32) (w7_140 : Int32) (μw_140 : MS) (σw_140 : XS) (KC : (Int32 × Int32 × Int32 × MS × XS) → Prop) (KE : (Int32 × Int32 × Int32 × MS × XS) → Prop) (v5_604 : Int32) (v6_604 : Int32) (v7_604 : Int32) (v8_604 : Int32) (v9_604 : Int32) (μ_604 : MS) (σ_604 : XS) : Prop := (oif ((f_L_low v9_604 3) = 0) (vp_in (2 * (f_L_low (v9_604 >>> ((2 : Int32) &&& 31)) 2)) 64 ∧ (w_L_law_l140_642 x K w5_140 w6_140 w7_140 μw_140 σw_140 KC KE v5_604 v6_604 v7_604 v8_604 v9_604 (f_L_low (v9_604 >>> ((2 : Int32) &&& 31)) 2) (mI μ_604 2 (ix (2 * (f_L_low (v9_604 >>> ((2 : Int32) &&& 31)) 2))) ((f_L_low (v9_604 >>> ((4 : Int32) &&& 31)) 41) - 20)) σ_604)) (w_L_law_l140_686 x K w5_140 w6_140 w7_140 μw_140 σw_140 KC KE v5_604 v6_604 v7_604 v8_604 v9_604 μ_604 σ_604))
def w_L_law_l140_573 (x : Nat) (K : Int32 → Prop) (w5_140 : Int32) (w6_140 : Int32) (w7_140 : Int32) (μw_140 : MS) (σw_140 : XS) (KC : (Int32 × Int32 × Int32 × MS × XS) → Prop) (KE : (Int32 × Int32 × Int32 × MS × XS) → Prop) (v5_573 : Int32) (v6_573 : Int32) (v7_573 : Int32) (v8_573 : Int32) (v9_573 : Int32) (v10_573 : Int32) (v11_573 : Int32) (μ_573 : MS) (σ_573 : XS) : Prop := (of_X10_clock σ_573 x v10_573 v11_573 ∧ (rcl (fun _ => f_X10_clock σ_573 x v10_573 v11_573) σ_573 (fun v9_51 σ9_52 => (vp_in ((3 * v10_573) + 2) 16 ∧ (oif (v9_51 = (mi μ_573 0 (ix ((3 * v10_573) + 2)))) (vp_in ((3 * v10_573) + 2) 16 ∧ (w_L_law_l140_604 x K w5_140 w6_140 w7_140 μw_140 σw_140 KC KE v5_573 v6_573 v7_573 v8_573 v9_573 (mI μ_573 0 (ix ((3 * v10_573) + 2)) v11_573) σ9_52)) (K 0))))))
def w_L_law_l140_475 (x : Nat) (K : Int32 → Prop) (w5_140 : Int32) (w6_140 : Int32) (w7_140 : Int32) (μw_140 : MS) (σw_140 : XS) (KC : (Int32 × Int32 × Int32 × MS × XS) → Prop) (KE : (Int32 × Int32 × Int32 × MS × XS) → Prop) (v5_475 : Int32) (v6_475 : Int32) (v7_475 : Int32) (v8_475 : Int32) (v9_475 : Int32) (v10_475 : Int32) (μ_475 : MS) (σ_475 : XS) : Prop := (vp_in v10_475 64 ∧ (vp_in (v10_475 + 1) 64 ∧ (vp_in (v10_475 + 2) 64 ∧ (vp_in (v10_475 + 3) 64 ∧ (vp_in (v10_475 + 4) 64 ∧ ((∀ nq, xk σ_475 nq = 0 → of_X10_begin σ_475 x nq (mi μ_475 1 (ix v10_475)) (mi μ_475 1 (ix (v10_475 + 1))) (mi μ_475 1 (ix (v10_475 + 2))) (mi μ_475 1 (ix (v10_475 + 3))) (mi μ_475 1 (ix (v10_475 + 4)))) ∧ (rcl (fun nq => f_X10_begin σ_475 x nq (mi μ_475 1 (ix v10_475)) (mi μ_475 1 (ix (v10_475 + 1))) (mi μ_475 1 (ix (v10_475 + 2))) (mi μ_475 1 (ix (v10_475 + 3))) (mi μ_475 1 (ix (v10_475 + 4)))) σ_475 (fun _ σ9_133 => (vp_in (v10_475 + 5) 64 ∧ (vp_in (v10_475 + 6) 64 ∧ (vp_in (v10_475 + 7) 64 ∧ (vp_in (v10_475 + 8) 64 ∧ (of_X10_end σ9_133 x (mi μ_475 1 (ix (v10_475 + 5))) (mi μ_475 1 (ix (v10_475 + 6))) (mi μ_475 1 (ix (v10_475 + 7))) (mi μ_475 1 (ix (v10_475 + 8))) ∧ (rcl (fun _ => f_X10_end σ9_133 x (mi μ_475 1 (ix (v10_475 + 5))) (mi μ_475 1 (ix (v10_475 + 6))) (mi μ_475 1 (ix (v10_475 + 7))) (mi μ_475 1 (ix (v10_475 + 8)))) σ9_133 (fun v9_139 σ9_140 => (oif (v9_139 = v5_475) (w_L_law_l140_604 x K w5_140 w6_140 w7_140 μw_140 σw_140 KC KE (v5_475 + 1) v6_475 v7_475 v8_475 v9_475 μ_475 σ9_140) (K 0)))))))))))))))))
def w_L_law_l140_447 (x : Nat) (K : Int32 → Prop) (w5_140 : Int32) (w6_140 : Int32) (w7_140 : Int32) (μw_140 : MS) (σw_140 : XS) (KC : (Int32 × Int32 × Int32 × MS × XS) → Prop) (KE : (Int32 × Int32 × Int32 × MS × XS) → Prop) (v5_447 : Int32) (v6_447 : Int32) (v7_447 : Int32) (v8_447 : Int32) (v9_447 : Int32) (v10_447 : Int32) (μ_447 : MS) (σ_447 : XS) : Prop := (vp_in (v10_447 + 7) 64 ∧ (oif ((mi μ_447 1 (ix (v10_447 + 7))) = 0) (vp_in (v10_447 + 8) 64 ∧ (oif ((mi μ_447 1 (ix (v10_447 + 8))) = 0) (vp_in (v10_447 + 8) 64 ∧ (w_L_law_l140_475 x K w5_140 w6_140 w7_140 μw_140 σw_140 KC KE v5_447 v6_447 v7_447 v8_447 v9_447 v10_447 (mI μ_447 1 (ix (v10_447 + 8)) (-1)) σ_447)) (w_L_law_l140_475 x K w5_140 w6_140 w7_140 μw_140 σw_140 KC KE v5_447 v6_447 v7_447 v8_447 v9_447 v10_447 μ_447 σ_447))) (w_L_law_l140_475 x K w5_140 w6_140 w7_140 μw_140 σw_140 KC KE v5_447 v6_447 v7_447 v8_447 v9_447 v10_447 μ_447 σ_447)))
def w_L_law_l140_421 (x : Nat) (K : Int32 → Prop) (w5_140 : Int32) (w6_140 : Int32) (w7_140 : Int32) (μw_140 : MS) (σw_140 : XS) (KC : (Int32 × Int32 × Int32 × MS × XS) → Prop) (KE : (Int32 × Int32 × Int32 × MS × XS) → Prop) (v5_421 : Int32) (v6_421 : Int32) (v7_421 : Int32) (v8_421 : Int32) (v9_421 : Int32) (v10_421 : Int32) (μ_421 : MS) (σ_421 : XS) : Prop := (vp_in (v10_421 + 5) 64 ∧ (oif ((mi μ_421 1 (ix (v10_421 + 5))) = 0) (vp_in (v10_421 + 6) 64 ∧ (oif ((mi μ_421 1 (ix (v10_421 + 6))) = 0) (vp_in (v10_421 + 5) 64 ∧ (w_L_law_l140_447 x K w5_140 w6_140 w7_140 μw_140 σw_140 KC KE v5_421 v6_421 v7_421 v8_421 v9_421 v10_421 (mI μ_421 1 (ix (v10_421 + 5)) 1) σ_421)) (w_L_law_l140_447 x K w5_140 w6_140 w7_140 μw_140 σw_140 KC KE v5_421 v6_421 v7_421 v8_421 v9_421 v10_421 μ_421 σ_421))) (w_L_law_l140_447 x K w5_140 w6_140 w7_140 μw_140 σw_140 KC KE v5_421 v6_421 v7_421 v8_421 v9_421 v10_421 μ_421 σ_421)))
def w_L_law_l140_401 (x : Nat) (K : Int32 → Prop) (w5_140 : Int32) (w6_140 : Int32) (w7_140 : Int32) (μw_140 : MS) (σw_140 : XS) (KC : (Int32 × Int32 × Int32 × MS × XS) → Prop) (KE : (Int32 × Int32 × Int32 × MS × XS) → Prop) (v5_401 : Int32) (v6_401 : Int32) (v7_401 : Int32) (v8_401 : Int32) (v9_401 : Int32) (v10_401 : Int32) (v14_401 : Int32) (μ_401 : MS) (σ_401 : XS) : Prop := (vp_in v10_401 64 ∧ (vp_in ((3 * (mi μ_401 1 (ix v10_401))) + 1) 16 ∧ (vp_in (v10_401 + 8) 64 ∧ (w_L_law_l140_421 x K w5_140 w6_140 w7_140 μw_140 σw_140 KC KE v5_401 v6_401 v7_401 v8_401 v9_401 v10_401 (mI μ_401 1 (ix (v10_401 + 8)) (v14_401 - (mi μ_401 0 (ix ((3 * (mi μ_401 1 (ix v10_401))) + 1))))) σ_401))))
def w_L_law_l140_383 (x : Nat) (K : Int32 → Prop) (w5_140 : Int32) (w6_140 : Int32) (w7_140 : Int32) (μw_140 : MS) (σw_140 : XS) (KC : (Int32 × Int32 × Int32 × MS × XS) → Prop) (KE : (Int32 × Int32 × Int32 × MS × XS) → Prop) (v5_383 : Int32) (v6_383 : Int32) (v7_383 : Int32) (v8_383 : Int32) (v9_383 : Int32) (v10_383 : Int32) (v13_383 : Int32) (v14_383 : Int32) (μ_383 : MS) (σ_383 : XS) : Prop := (vp_in v10_383 64 ∧ (vp_in (3 * (mi μ_383 1 (ix v10_383))) 16 ∧ (vp_in (v10_383 + 7) 64 ∧ (w_L_law_l140_401 x K w5_140 w6_140 w7_140 μw_140 σw_140 KC KE v5_383 v6_383 v7_383 v8_383 v9_383 v10_383 v14_383 (mI μ_383 1 (ix (v10_383 + 7)) (v13_383 - (mi μ_383 0 (ix (3 * (mi μ_383 1 (ix v10_383))))))) σ_383))))
def w_L_law_l140_363 (x : Nat) (K : Int32 → Prop) (w5_140 : Int32) (w6_140 : Int32) (w7_140 : Int32) (μw_140 : MS) (σw_140 : XS) (KC : (Int32 × Int32 × Int32 × MS × XS) → Prop) (KE : (Int32 × Int32 × Int32 × MS × XS) → Prop) (v5_363 : Int32) (v6_363 : Int32) (v7_363 : Int32) (v8_363 : Int32) (v9_363 : Int32) (v10_363 : Int32) (v12_363 : Int32) (v13_363 : Int32) (v14_363 : Int32) (μ_363 : MS) (σ_363 : XS) : Prop := (vp_in v10_363 64 ∧ (vp_in ((3 * (mi μ_363 1 (ix v10_363))) + 1) 16 ∧ (vp_in (v10_363 + 6) 64 ∧ (w_L_law_l140_383 x K w5_140 w6_140 w7_140 μw_140 σw_140 KC KE v5_363 v6_363 v7_363 v8_363 v9_363 v10_363 v13_363 v14_363 (mI μ_363 1 (ix (v10_363 + 6)) (v12_363 - (mi μ_363 0 (ix ((3 * (mi μ_363 1 (ix v10_363))) + 1))))) σ_363))))
def w_L_law_l140_346 (x : Nat) (K : Int32 → Prop) (w5_140 : Int32) (w6_140 : Int32) (w7_140 : Int32) (μw_140 : MS) (σw_140 : XS) (KC : (Int32 × Int32 × Int32 × MS × XS) → Prop) (KE : (Int32 × Int32 × Int32 × MS × XS) → Prop) (v5_346 : Int32) (v6_346 : Int32) (v7_346 : Int32) (v8_346 : Int32) (v9_346 : Int32) (v10_346 : Int32) (v11_346 : Int32) (v12_346 : Int32) (v13_346 : Int32) (v14_346 : Int32) (μ_346 : MS) (σ_346 : XS) : Prop := (vp_in v10_346 64 ∧ (vp_in (3 * (mi μ_346 1 (ix v10_346))) 16 ∧ (vp_in (v10_346 + 5) 64 ∧ (w_L_law_l140_363 x K w5_140 w6_140 w7_140 μw_140 σw_140 KC KE v5_346 v6_346 v7_346 v8_346 v9_346 v10_346 v12_346 v13_346 v14_346 (mI μ_346 1 (ix (v10_346 + 5)) (v11_346 - (mi μ_346 0 (ix (3 * (mi μ_346 1 (ix v10_346))))))) σ_346))))
def w_L_law_l140_331 (x : Nat) (K : Int32 → Prop) (w5_140 : Int32) (w6_140 : Int32) (w7_140 : Int32) (μw_140 : MS) (σw_140 : XS) (KC : (Int32 × Int32 × Int32 × MS × XS) → Prop) (KE : (Int32 × Int32 × Int32 × MS × XS) → Prop) (v5_331 : Int32) (v6_331 : Int32) (v7_331 : Int32) (v8_331 : Int32) (v9_331 : Int32) (v10_331 : Int32) (v11_331 : Int32) (v12_331 : Int32) (v13_331 : Int32) (μ_331 : MS) (σ_331 : XS) : Prop := (w_L_law_l140_346 x K w5_140 w6_140 w7_140 μw_140 σw_140 KC KE v5_331 v6_331 v7_331 v8_331 v9_331 v10_331 v11_331 v12_331 v13_331 (20 + (f_L_low (v9_331 >>> ((18 : Int32) &&& 31)) 60)) μ_331 σ_331)
def w_L_law_l140_316 (x : Nat) (K : Int32 → Prop) (w5_140 : Int32) (w6_140 : Int32) (w7_140 : Int32) (μw_140 : MS) (σw_140 : XS) (KC : (Int32 × Int32 × Int32 × MS × XS) → Prop) (KE : (Int32 × Int32 × Int32 × MS × XS) → Prop) (v5_316 : Int32) (v6_316 : Int32) (v7_316 : Int32) (v8_316 : Int32) (v9_316 : Int32) (v10_316 : Int32) (v11_316 : Int32) (v12_316 : Int32) (μ_316 : MS) (σ_316 : XS) : Prop := (w_L_law_l140_331 x K w5_140 w6_140 w7_140 μw_140 σw_140 KC KE v5_316 v6_316 v7_316 v8_316 v9_316 v10_316 v11_316 v12_316 (20 + (f_L_low (v9_316 >>> ((12 : Int32) &&& 31)) 60)) μ_316 σ_316)
def w_L_law_l140_289 (x : Nat) (K : Int32 → Prop) (w5_140 : Int32) (w6_140 : Int32) (w7_140 : Int32) (μw_140 : MS) (σw_140 : XS) (KC : (Int32 × Int32 × Int32 × MS × XS) → Prop) (KE : (Int32 × Int32 × Int32 × MS × XS) → Prop) (v5_289 : Int32) (v6_289 : Int32) (v7_289 : Int32) (v8_289 : Int32) (v9_289 : Int32) (v10_289 : Int32) (μ_289 : MS) (σ_289 : XS) : Prop := (w_L_law_l140_316 x K w5_140 w6_140 w7_140 μw_140 σw_140 KC KE v5_289 v6_289 v7_289 v8_289 v9_289 v10_289 (20 + (f_L_low v9_289 60)) (20 + (f_L_low (v9_289 >>> ((6 : Int32) &&& 31)) 60)) μ_289 σ_289)
def w_L_law_l140_269 (x : Nat) (K : Int32 → Prop) (w5_140 : Int32) (w6_140 : Int32) (w7_140 : Int32) (μw_140 : MS) (σw_140 : XS) (KC : (Int32 × Int32 × Int32 × MS × XS) → Prop) (KE : (Int32 × Int32 × Int32 × MS × XS) → Prop) (v5_269 : Int32) (v6_269 : Int32) (v7_269 : Int32) (v8_269 : Int32) (v9_269 : Int32) (v10_269 : Int32) (μ_269 : MS) (σ_269 : XS) : Prop := (vp_in (v10_269 + 4) 64 ∧ (w_L_law_l140_289 x K w5_140 w6_140 w7_140 μw_140 σw_140 KC KE v5_269 v6_269 v7_269 v8_269 v9_269 v10_269 (mI μ_269 1 (ix (v10_269 + 4)) (40 + (f_L_low (v8_269 >>> ((17 : Int32) &&& 31)) 400))) σ_269))
def w_L_law_l140_264 (x : Nat) (K : Int32 → Prop) (w5_140 : Int32) (w6_140 : Int32) (w7_140 : Int32) (μw_140 : MS) (σw_140 : XS) (KC : (Int32 × Int32 × Int32 × MS × XS) → Prop) (KE : (Int32 × Int32 × Int32 × MS × XS) → Prop) (v5_264 : Int32) (v6_264 : Int32) (v7_264 : Int32) (v8_264 : Int32) (v9_264 : Int32) (v10_264 : Int32) (t0_264 : Int32) (t1_264 : Int32) (t2_264 : Int32) (t3_264 : Int32) (μ_264 : MS) (σ_264 : XS) : Prop := (¬ t0_264 = 0 ∧ (vp_in t3_264 64 ∧ (w_L_law_l140_269 x K w5_140 w6_140 w7_140 μw_140 σw_140 KC KE v5_264 v6_264 v7_264 v8_264 v9_264 v10_264 (mI μ_264 1 (ix t3_264) (t2_264 + (f_L_low t1_264 t0_264))) σ_264)))
def w_L_law_l140_234 (x : Nat) (K : Int32 → Prop) (w5_140 : Int32) (w6_140 : Int32) (w7_140 : Int32) (μw_140 : MS) (σw_140 : XS) (KC : (Int32 × Int32 × Int32 × MS × XS) → Prop) (KE : (Int32 × Int32 × Int32 × MS × XS) → Prop) (v5_234 : Int32) (v6_234 : Int32) (v7_234 : Int32) (v8_234 : Int32) (v9_234 : Int32) (v10_234 : Int32) (μ_234 : MS) (σ_234 : XS) : Prop := (oif ((f_L_low (v8_234 >>> ((14 : Int32) &&& 31)) 5) = 0) (w_L_law_l140_264 x K w5_140 w6_140 w7_140 μw_140 σw_140 KC KE v5_234 v6_234 v7_234 v8_234 v9_234 v10_234 60 (v8_234 >>> ((9 : Int32) &&& 31)) 1 (v10_234 + 3) μ_234 σ_234) (w_L_law_l140_264 x K w5_140 w6_140 w7_140 μw_140 σw_140 KC KE v5_234 v6_234 v7_234 v8_234 v9_234 v10_234 30 (v8_234 >>> ((9 : Int32) &&& 31)) 1 (v10_234 + 3) μ_234 σ_234))
def w_L_law_l140_215 (x : Nat) (K : Int32 → Prop) (w5_140 : Int32) (w6_140 : Int32) (w7_140 : Int32) (μw_140 : MS) (σw_140 : XS) (KC : (Int32 × Int32 × Int32 × MS × XS) → Prop) (KE : (Int32 × Int32 × Int32 × MS × XS) → Prop) (v5_215 : Int32) (v6_215 : Int32) (v7_215 : Int32) (v8_215 : Int32) (v9_215 : Int32) (v10_215 : Int32) (μ_215 : MS) (σ_215 : XS) : Prop := (vp_in (v10_215 + 2) 64 ∧ (w_L_law_l140_234 x K w5_140 w6_140 w7_140 μw_140 σw_140 KC KE v5_215 v6_215 v7_215 v8_215 v9_215 v10_215 (mI μ_215 1 (ix (v10_215 + 2)) (1000 + (f_L_low (v8_215 >>> ((5 : Int32) &&& 31)) 12))) σ_215))
def w_L_law_l140_214 (x : Nat) (K : Int32 → Prop) (w5_140 : Int32) (w6_140 : Int32) (w7_140 : Int32) (μw_140 : MS) (σw_140 : XS) (KC : (Int32 × Int32 × Int32 × MS × XS) → Prop) (KE : (Int32 × Int32 × Int32 × MS × XS) → Prop) (v5_214 : Int32) (v6_214 : Int32) (v7_214 : Int32) (v8_214 : Int32) (v9_214 : Int32) (v10_214 : Int32) (t0_214 : Int32) (t1_214 : Int32) (μ_214 : MS) (σ_214 : XS) : Prop := (vp_in t1_214 64 ∧ (w_L_law_l140_215 x K w5_140 w6_140 w7_140 μw_140 σw_140 KC KE v5_214 v6_214 v7_214 v8_214 v9_214 v10_214 (mI μ_214 1 (ix t1_214) t0_214) σ_214))
def w_L_law_l140_192 (x : Nat) (K : Int32 → Prop) (w5_140 : Int32) (w6_140 : Int32) (w7_140 : Int32) (μw_140 : MS) (σw_140 : XS) (KC : (Int32 × Int32 × Int32 × MS × XS) → Prop) (KE : (Int32 × Int32 × Int32 × MS × XS) → Prop) (v5_192 : Int32) (v6_192 : Int32) (v7_192 : Int32) (v8_192 : Int32) (v9_192 : Int32) (v10_192 : Int32) (μ_192 : MS) (σ_192 : XS) : Prop := (oif ((f_L_low (v8_192 >>> ((2 : Int32) &&& 31)) 8) = 0) (w_L_law_l140_214 x K w5_140 w6_140 w7_140 μw_140 σw_140 KC KE v5_192 v6_192 v7_192 v8_192 v9_192 v10_192 1 (v10_192 + 1) μ_192 σ_192) (w_L_law_l140_214 x K w5_140 w6_140 w7_140 μw_140 σw_140 KC KE v5_192 v6_192 v7_192 v8_192 v9_192 v10_192 0 (v10_192 + 1) μ_192 σ_192))
def b_L_law_140 (x : Nat) (K : Int32 → Prop) (w5_140 : Int32) (w6_140 : Int32) (w7_140 : Int32) (μw_140 : MS) (σw_140 : XS) (KC : (Int32 × Int32 × Int32 × MS × XS) → Prop) (KE : (Int32 × Int32 × Int32 × MS × XS) → Prop) : Prop := (oif (9 ≤ w7_140) (KE (w5_140, w6_140, w7_140, μw_140, σw_140)) (¬ w6_140 < 0 ∧ (∀ v9_46 : Int32, (¬ (w6_140 + 1) < 0 ∧ (∀ v9_48 : Int32, (oif (7 ≤ w5_140) (w_L_law_l140_573 x K w5_140 w6_140 w7_140 μw_140 σw_140 KC KE w5_140 (w6_140 + 2) w7_140 v9_46 v9_48 (f_L_low v9_46 4) ((f_L_low (v9_46 >>> ((2 : Int32) &&& 31)) 21) - 10) μw_140 σw_140) (vp_in (9 * w5_140) 64 ∧ (w_L_law_l140_192 x K w5_140 w6_140 w7_140 μw_140 σw_140 KC KE w5_140 (w6_140 + 2) w7_140 v9_46 v9_48 (9 * w5_140) (mI μw_140 1 (ix (9 * w5_140)) (f_L_low v9_46 4)) σw_140))))))))
def w_L_law_m140 (x : Nat) (K : Int32 → Prop) (v5_140 : Int32) (v6_140 : Int32) (v7_140 : Int32) (μ_140 : MS) (σ_140 : XS) : Prop := (winv 10 (fun (v : Int32 × Int32 × Int32 × MS × XS) KC KE => b_L_law_140 x K v.1 v.2.1 v.2.2.1 v.2.2.2.1 v.2.2.2.2 KC KE) (v5_140, v6_140, v7_140, μ_140, σ_140) (fun (v : Int32 × Int32 × Int32 × MS × XS) => (w_L_law_m960 x K v.1 v.2.1 v.2.2.2.1 v.2.2.2.2)))
def w_L_law_m131 (x : Nat) (K : Int32 → Prop) (μ_131 : MS) (σ_131 : XS) : Prop := (w_L_law_m140 x K 0 4 0 μ_131 σ_131)
def w_L_law_l27_92 (x : Nat) (K : Int32 → Prop) (w5_27 : Int32) (μw_27 : MS) (σw_27 : XS) (KC : (Int32 × MS × XS) → Prop) (KE : (Int32 × MS × XS) → Prop) (v5_92 : Int32) (μ_92 : MS) (σ_92 : XS) : Prop := (vp_in (3 * v5_92) 16 ∧ (vp_in ((3 * v5_92) + 1) 16 ∧ (vp_in ((3 * v5_92) + 2) 16 ∧ ((∀ nq, xk σ_92 nq = 0 → of_X10_camera σ_92 x nq (mi μ_92 0 (ix (3 * v5_92))) (mi μ_92 0 (ix ((3 * v5_92) + 1))) (mi μ_92 0 (ix ((3 * v5_92) + 2)))) ∧ (rcl (fun nq => f_X10_camera σ_92 x nq (mi μ_92 0 (ix (3 * v5_92))) (mi μ_92 0 (ix ((3 * v5_92) + 1))) (mi μ_92 0 (ix ((3 * v5_92) + 2)))) σ_92 (fun v9_162 σ9_163 => (oif (v9_162 = v5_92) (KC ((v5_92 + 1), μ_92, σ9_163)) (K 0))))))))
def w_L_law_l27_72 (x : Nat) (K : Int32 → Prop) (w5_27 : Int32) (μw_27 : MS) (σw_27 : XS) (KC : (Int32 × MS × XS) → Prop) (KE : (Int32 × MS × XS) → Prop) (v5_72 : Int32) (v6_72 : Int32) (μ_72 : MS) (σ_72 : XS) : Prop := (vp_in ((3 * v5_72) + 2) 16 ∧ (w_L_law_l27_92 x K w5_27 μw_27 σw_27 KC KE v5_72 (mI μ_72 0 (ix ((3 * v5_72) + 2)) ((f_L_low (v6_72 >>> ((14 : Int32) &&& 31)) 11) - 5)) σ_72))
def w_L_law_l27_54 (x : Nat) (K : Int32 → Prop) (w5_27 : Int32) (μw_27 : MS) (σw_27 : XS) (KC : (Int32 × MS × XS) → Prop) (KE : (Int32 × MS × XS) → Prop) (v5_54 : Int32) (v6_54 : Int32) (μ_54 : MS) (σ_54 : XS) : Prop := (vp_in ((3 * v5_54) + 1) 16 ∧ (w_L_law_l27_72 x K w5_27 μw_27 σw_27 KC KE v5_54 v6_54 (mI μ_54 0 (ix ((3 * v5_54) + 1)) (f_L_low (v6_54 >>> ((7 : Int32) &&& 31)) 100)) σ_54))
def b_L_law_27 (x : Nat) (K : Int32 → Prop) (w5_27 : Int32) (μw_27 : MS) (σw_27 : XS) (KC : (Int32 × MS × XS) → Prop) (KE : (Int32 × MS × XS) → Prop) : Prop := (oif (4 ≤ w5_27) (KE (w5_27, μw_27, σw_27)) (¬ w5_27 < 0 ∧ (∀ v9_154 : Int32, (vp_in (3 * w5_27) 16 ∧ (w_L_law_l27_54 x K w5_27 μw_27 σw_27 KC KE w5_27 v9_154 (mI μw_27 0 (ix (3 * w5_27)) (f_L_low v9_154 100)) σw_27)))))
def w_L_law_m27 (x : Nat) (K : Int32 → Prop) (v5_27 : Int32) (μ_27 : MS) (σ_27 : XS) : Prop := (winv 5 (fun (v : Int32 × MS × XS) KC KE => b_L_law_27 x K v.1 v.2.1 v.2.2 KC KE) (v5_27, μ_27, σ_27) (fun (v : Int32 × MS × XS) => (w_L_law_m131 x K v.2.1 v.2.2)))
def w_L_law (μ : MS) (σ : XS) (x : Nat) (K : Int32 → Prop) : Prop := (w_L_law_m27 x K 0 (mZI (mZI (mZI μ 0) 1) 2) σ)
set_option maxHeartbeats 4000000 in
set_option maxRecDepth 1000000 in
theorem k_L_law {p : Program} {l : Launch} {e : Env} {R : Room} {s : State} {m : MethodId} {args : Array Value} {below : List Frame} {meth : Method} {c : Code} {Q : State → Prop} {D : va_G} {a : Nat → ClassId} {x e0 b Lx : Nat} {A : Nat → Prop} {xs : Nat → Int32} (hfl : l.stackTraces = false) (hRf : R.frames = 12) (hRl : R.locals = 444) (hRc : 502373 ≤ R.cells) (hRs : 2062145 ≤ R.slots) (C : Cx D a p s m args c cL_law 17 RL) (hE : EV D a e0 A s s.heap) (hX : va_X b Lx xs s s.heap) (hb0 : b < s.heap.size) (hbA : ¬ A b) (μ : MS) (σ : XS) (K : Int32 → Prop) (hok : w_L_law μ σ x K) (ret : ∀ (pc : Nat) (ls : Array Slot) (H : Heap) (locs : List Loc) (v : Int32), va_S A s.heap H locs → decode cL_law pc = .ok (.ireturn, 1) → K v → W p l e R s m args below meth c H locs R.cells R.slots Q (F0 m pc ls [.int v])) {H : Heap} {locs : List Loc} {ls : Array Slot} (hM : HL D a x e0 A [] (some σ) s.heap H locs) (hl : lv_has ls 17 [(1, .ref x), (0, .ref b)]) : W p l e R s m args below meth c H locs 300 27000 Q (F0 m 8 ls []) := by
  have hAf : ∀ q, s.heap.size ≤ q → A q := hE.2.2.2.2.2.1
  have hx := C.1.1
  have hb := C.1.2.1
  have hts := C.1.2.2.2.2
  have hown := C.1.2.2.2.1
  have J_m1112 : ∀  (v7_1112 : Int32) (v8_1112 : Int32) (v9_1112 : Int32) (v10_1112 : Int32) (μ_1112 : MS) (σ_1112 : XS), w_L_law_m1112 x K v7_1112 v8_1112 v9_1112 v10_1112 μ_1112 σ_1112 → ∀ (H : Heap) (locs : List Loc) (ls : Array Slot), HL D a x e0 A [] (some σ_1112) s.heap H locs → lv_has ls 17 [(1, .ref x), (7, .int v7_1112), (8, .int v8_1112), (9, .int v9_1112), (10, .int v10_1112)] → W p l e R s m args below meth c H locs 502365 2061793 Q (F0 m 1112 ls []) := by
    intro v7_1112 v8_1112 v9_1112 v10_1112 μ_1112 σ_1112 hok H locs ls hM hl
    refine lv_aload_n hx hb dL_law_1112 rfl (lv_at hl 0 rfl) ?_
    refine lv_iload hx hb dL_law_1113 (lv_at hl 1 rfl) ?_
    refine lv_iload hx hb dL_law_1115 (lv_at hl 2 rfl) ?_
    refine lv_iload hx hb dL_law_1117 (lv_at hl 3 rfl) ?_
    refine lv_bipush (v := 100) hx hb dL_law_1119 (by decide) ?_
    refine lv_iconst (v := 1) hx hb dL_law_1121 (by decide) ?_
    have ok_7 := And.left hok
    have hok := And.right hok
    refine lx_m (av := [.int v7_1112, .int v8_1112, .int v9_1112, .int 100, .int 1]) C hM hE hok (fun B => k_X10_find l D a x e0 B hfl σ_1112 v7_1112 v8_1112 v9_1112 100 1 ok_7) cw_L_112 (okR_of hRf hRl (Nat.le_of_ble_eq_true rfl) (Nat.le_of_ble_eq_true rfl)) rfl rfl hl.1 (Nat.le_of_ble_eq_true rfl) (by omega) (by omega) dL_law_1122 (fun v9_8 σ9_9 H locs hok hM => ?_)
    have hM : HL D a x e0 A [] (some σ9_9) s.heap H locs := hM
    refine lv_if_ne (tgt := 1142) hx hb dL_law_1125 (by decide) (fun c_10 => ?_) (fun c_10 => ?_)
    · have hok := oif_neg hok c_10
      refine lv_iconst (v := 0) hx hb dL_law_1142 (by decide) ?_
      refine W.widen (k := R.cells) (n := R.slots) (by omega) (by omega) ?_
      exact ret _ _ _ _ _ hM.2.2.1 dL_law_1143 hok
    · have hok := oif_pos hok c_10
      refine lv_aload_n hx hb dL_law_1128 rfl (lv_at hl 0 rfl) ?_
      refine lv_iconst (v := 0) hx hb dL_law_1129 (by decide) ?_
      have ok_11 := And.left hok
      have hok := And.right hok
      refine lx_m (av := [.int 0]) C hM hE hok (fun B => k_X10_fall l D a x e0 B hfl σ9_9 0 ok_11) cw_L_116 (okR_of hRf hRl (Nat.le_of_ble_eq_true rfl) (Nat.le_of_ble_eq_true rfl)) rfl rfl hl.1 (Nat.le_of_ble_eq_true rfl) (by omega) (by omega) dL_law_1130 (fun v9_12 σ9_13 H locs hok hM => ?_)
      have hM : HL D a x e0 A [] (some σ9_13) s.heap H locs := hM
      refine lv_iload hx hb dL_law_1133 (lv_at hl 4 rfl) ?_
      refine lv_icmp_ne (tgt := 1142) hx hb dL_law_1135 (by decide) (fun c_14 => ?_) (fun c_14 => ?_)
      · have hok := oif_neg hok c_14
        refine lv_iconst (v := 0) hx hb dL_law_1142 (by decide) ?_
        refine W.widen (k := R.cells) (n := R.slots) (by omega) (by omega) ?_
        exact ret _ _ _ _ _ hM.2.2.1 dL_law_1143 hok
      · have hok := oif_pos hok c_14
        refine lv_iconst (v := 1) hx hb dL_law_1138 (by decide) ?_
        refine lv_goto (tgt := 1143) hx hb dL_law_1139 (by decide) ?_
        refine W.widen (k := R.cells) (n := R.slots) (by omega) (by omega) ?_
        exact ret _ _ _ _ _ hM.2.2.1 dL_law_1143 hok
  have J_m1017 : ∀ (q0 : Nat) (hA0 : A q0) (q1 : Nat) (hA1 : A q1) (q2 : Nat) (hA2 : A q2) (q4 : Nat) (hA4 : A q4) (v5_1017 : Int32) (v7_1017 : Int32) (v8_1017 : Int32) (v9_1017 : Int32) (v10_1017 : Int32) (v11_1017 : Int64) (v14_1017 : Int32) (μ_1017 : MS) (σ_1017 : XS), w_L_law_m1017 x K v5_1017 v7_1017 v8_1017 v9_1017 v10_1017 v11_1017 v14_1017 μ_1017 σ_1017 → ∀ (H : Heap) (locs : List Loc) (ls : Array Slot), HL D a x e0 A [(q0, .inl (a 0, 16, .inl (μ_1017.1 0))), (q1, .inl (a 0, 64, .inl (μ_1017.1 1))), (q2, .inl (a 0, 64, .inl (μ_1017.1 2))), (q4, .inl (a 1, 16, .inr (.inl (μ_1017.2 4))))] (some σ_1017) s.heap H locs → lv_has ls 17 [(1, .ref x), (2, .ref q0), (3, .ref q1), (4, .ref q2), (5, .int v5_1017), (7, .int v7_1017), (8, .int v8_1017), (9, .int v9_1017), (10, .int v10_1017), (11, .long v11_1017), (13, .ref q4), (14, .int v14_1017)] → W p l e R s m args below meth c H locs 464909 1911105 Q (F0 m 1017 ls []) := by
    intro q0 hA0 q1 hA1 q2 hA2 q4 hA4 v5_1017 v7_1017 v8_1017 v9_1017 v10_1017 v11_1017 v14_1017 μ_1017 σ_1017 hok H locs ls hM hl
    obtain ⟨I9_15, i9_16, n9_17, s9_18⟩ := hok
    refine inv_W (I := I9_15) (fun (n : Nat) (v : Int32 × Int64 × Int32 × MS) => ∀ (k j : Nat) (H : Heap) (locs : List Loc) (ls : Array Slot), k + bud n 4682 ≤ 502365 → j + bud n 18836 ≤ 2061793 → HL D a x e0 A [(q0, .inl (a 0, 16, .inl (v.2.2.2.1 0))), (q1, .inl (a 0, 64, .inl (v.2.2.2.1 1))), (q2, .inl (a 0, 64, .inl (v.2.2.2.1 2))), (q4, .inl (a 1, 16, .inr (.inl (v.2.2.2.2 4))))] (some σ_1017) s.heap H locs → lv_has ls 17 [(1, .ref x), (2, .ref q0), (3, .ref q1), (4, .ref q2), (5, .int v5_1017), (7, .int v7_1017), (8, .int v8_1017), (9, .int v9_1017), (10, .int v.1), (11, .long v.2.1), (13, .ref q4), (14, .int v.2.2.1)] → W p l e R s m args below meth c H locs k j Q (F0 m 1017 ls [])) n9_17 (fun n_1017 v hI9 kc9 => ?_) 8 (v10_1017, v11_1017, v14_1017, μ_1017) i9_16 _ _ _ _ ls (bud_e (t := 37456) (by omega) rfl) (bud_e (t := 150688) (by omega) rfl) hM (lv_sub hl [0, 1, 2, 3, 4, 5, 6, 7, 8, 9, 10, 11] rfl)
    obtain ⟨w10_1017, w11_1017, w14_1017, μw_1017⟩ := v
    have hok : b_L_law_1017 x K v5_1017 v7_1017 v8_1017 v9_1017 σ_1017 w10_1017 w11_1017 w14_1017 μw_1017 (I9_15 n_1017) (fun (v : Int32 × Int64 × Int32 × MS) => (w_L_law_m1112 x K v7_1017 v8_1017 v9_1017 v.1 v.2.2.2 σ_1017)) := s9_18 n_1017 (w10_1017, w11_1017, w14_1017, μw_1017) hI9
    intro k_1017 j_1017 H locs ls hk_1017 hj_1017 hM hl
    replace hk_1017 := bud_s hk_1017
    replace hj_1017 := bud_s hj_1017
    have J_l1017_1106 : ∀  (v10_1106 : Int32) (v11_1106 : Int64) (v14_1106 : Int32) (μ_1106 : MS), w_L_law_l1017_1106 x K v5_1017 v7_1017 v8_1017 v9_1017 σ_1017 w10_1017 w11_1017 w14_1017 μw_1017 (I9_15 n_1017) (fun (v : Int32 × Int64 × Int32 × MS) => (w_L_law_m1112 x K v7_1017 v8_1017 v9_1017 v.1 v.2.2.2 σ_1017)) v10_1106 v11_1106 v14_1106 μ_1106 → ∀ (H : Heap) (locs : List Loc) (ls : Array Slot), HL D a x e0 A [(q0, .inl (a 0, 16, .inl (μ_1106.1 0))), (q1, .inl (a 0, 64, .inl (μ_1106.1 1))), (q2, .inl (a 0, 64, .inl (μ_1106.1 2))), (q4, .inl (a 1, 16, .inr (.inl (μ_1106.2 4))))] (some σ_1017) s.heap H locs → lv_has ls 17 [(1, .ref x), (2, .ref q0), (3, .ref q1), (4, .ref q2), (5, .int v5_1017), (7, .int v7_1017), (8, .int v8_1017), (9, .int v9_1017), (10, .int v10_1106), (11, .long v11_1106), (13, .ref q4), (14, .int v14_1106)] → W p l e R s m args below meth c H locs (k_1017 + 4682) (j_1017 + 18836) Q (F0 m 1106 ls []) := by
      intro v10_1106 v11_1106 v14_1106 μ_1106 hok H locs ls hM hl
      refine lv_iinc (v := (v14_1106 + 1)) (lv' := [(14, .int (v14_1106 + 1)), (1, .ref x), (2, .ref q0), (3, .ref q1), (4, .ref q2), (5, .int v5_1017), (7, .int v7_1017), (8, .int v8_1017), (9, .int v9_1017), (10, .int v10_1106), (11, .long v11_1106), (13, .ref q4)]) hx hb dL_law_1106 hl (k := 11) rfl rfl (by decide) rfl (fun ls hl => ?_)
      refine lv_goto (tgt := 1017) hx hb dL_law_1109 (by decide) ?_
      exact kc9 (v10_1106, v11_1106, (v14_1106 + 1), μ_1106) hok _ _ _ _ _ (by omega) (by omega) hM (lv_sub hl [1, 2, 3, 4, 5, 6, 7, 8, 9, 10, 11, 0] rfl)
    refine lv_iload hx hb dL_law_1017 (lv_at hl 11 rfl) ?_
    refine lv_iload hx hb dL_law_1019 (lv_at hl 4 rfl) ?_
    refine lv_icmp_ge (tgt := 1112) hx hb dL_law_1021 (by decide) (fun c_19 => ?_) (fun c_19 => ?_)
    · have hok := oif_pos hok c_19
      have hM : HL D a x e0 A [] (some σ_1017) s.heap H locs := hM.sub [] rfl rfl
      refine W.widen (k := 502365) (n := 2061793) (by omega) (by omega) ?_
      exact J_m1112 v7_1017 v8_1017 v9_1017 w10_1017 μw_1017 σ_1017 hok _ _ ls hM (lv_sub hl [0, 5, 6, 7, 8] rfl)
    · have hok := oif_neg hok c_19
      refine lv_aload_n hx hb dL_law_1024 rfl (lv_at hl 1 rfl) ?_
      refine lv_aload_n hx hb dL_law_1025 rfl (lv_at hl 2 rfl) ?_
      refine lv_iload hx hb dL_law_1026 (lv_at hl 4 rfl) ?_
      refine lv_iload hx hb dL_law_1028 (lv_at hl 11 rfl) ?_
      obtain ⟨S9_20, w9_21, g9_22⟩ := hok
      refine lc_0 (av := [.ref q0, .ref q1, .int v5_1017, .int w14_1017]) C hM hAf [0, 1] rfl rfl (fun A9 => k_L_group l D a A9 q0 q1 μw_1017 v5_1017 w14_1017 S9_20 w9_21) cw_L_26 (okR_of hRf hRl (Nat.le_of_ble_eq_true rfl) (Nat.le_of_ble_eq_true rfl)) rfl rfl hl.1 (Nat.le_of_ble_eq_true rfl) (by omega) (by omega) dL_law_1030 (fun H locs v9 hM hP9 => ?_)
      obtain ⟨v9_24, hS_23, rfl⟩ := hP9
      have hM : HL D a x e0 A [(q0, .inl (a 0, 16, .inl (μw_1017.1 0))), (q1, .inl (a 0, 64, .inl (μw_1017.1 1))), (q2, .inl (a 0, 64, .inl (μw_1017.1 2))), (q4, .inl (a 1, 16, .inr (.inl (μw_1017.2 4))))] (some σ_1017) s.heap H locs := hM
      have hok := g9_22 v9_24 hS_23
      refine lv_iload hx hb dL_law_1033 (lv_at hl 11 rfl) ?_
      refine lv_icmp_ne (tgt := 1106) hx hb dL_law_1035 (by decide) (fun c_25 => ?_) (fun c_25 => ?_)
      · have hok := oif_neg hok c_25
        refine W.widen (k := (k_1017 + 4682)) (n := (j_1017 + 18836)) (by omega) (by omega) ?_
        exact J_l1017_1106 w10_1017 w11_1017 w14_1017 μw_1017 hok _ _ ls hM (lv_sub hl [0, 1, 2, 3, 4, 5, 6, 7, 8, 9, 10, 11] rfl)
      · have hok := oif_pos hok c_25
        refine lv_aload_n hx hb dL_law_1038 rfl (lv_at hl 2 rfl) ?_
        refine lv_bipush (v := 9) hx hb dL_law_1039 (by decide) ?_
        refine lv_iload hx hb dL_law_1041 (lv_at hl 11 rfl) ?_
        refine lv_imul hx hb dL_law_1043 ?_
        refine lv_iconst (v := 1) hx hb dL_law_1044 (by decide) ?_
        refine lv_iadd hx hb dL_law_1045 ?_
        have ok_26 := And.left hok
        have hok := And.right hok
        refine la_I C hM 1 rfl ok_26 dL_law_1046 ?_
        refine lv_iload hx hb dL_law_1047 (lv_at hl 7 rfl) ?_
        refine lv_icmp_le (tgt := 1055) hx hb dL_law_1049 (by decide) (fun c_27 => ?_) (fun c_27 => ?_)
        · have hok := oif_pos hok c_27
          refine lv_aload_n hx hb dL_law_1055 rfl (lv_at hl 1 rfl) ?_
          refine lv_aload_n hx hb dL_law_1056 rfl (lv_at hl 2 rfl) ?_
          refine lv_iload hx hb dL_law_1057 (lv_at hl 4 rfl) ?_
          refine lv_iload hx hb dL_law_1059 (lv_at hl 11 rfl) ?_
          refine lv_aload hx hb dL_law_1061 (lv_at hl 10 rfl) ?_
          obtain ⟨S9_28, w9_29, g9_30⟩ := hok
          refine lc_1 (av := [.ref q0, .ref q1, .int v5_1017, .int w14_1017, .ref q4]) C hM hAf [0, 1, 3] rfl rfl 3 rfl hA4 (fun A9 hA9 => k_L_all l D a A9 q0 q1 q4 μw_1017 v5_1017 w14_1017 S9_28 hA9 w9_29) cw_L_58 (okR_of hRf hRl (Nat.le_of_ble_eq_true rfl) (Nat.le_of_ble_eq_true rfl)) rfl rfl hl.1 (Nat.le_of_ble_eq_true rfl) (by omega) (by omega) dL_law_1063 (fun H locs v9 hT9 hP9 => ?_)
          obtain ⟨gq_32, hS_31, rfl, hT8⟩ := hP9
          have hM : HL D a x e0 A [(q0, .inl (a 0, 16, .inl ((mQ μw_1017 4 gq_32).1 0))), (q1, .inl (a 0, 64, .inl ((mQ μw_1017 4 gq_32).1 1))), (q2, .inl (a 0, 64, .inl ((mQ μw_1017 4 gq_32).1 2))), (q4, .inl (a 1, 16, .inr (.inl ((mQ μw_1017 4 gq_32).2 4))))] (some σ_1017) s.heap H locs := hT9 _ hT8
          have hok := g9_30 gq_32 hS_31
          refine lv_aload hx hb dL_law_1066 (lv_at hl 3 rfl) ?_
          refine lv_aload hx hb dL_law_1068 (lv_at hl 10 rfl) ?_
          refine lv_aload_n hx hb dL_law_1070 rfl (lv_at hl 2 rfl) ?_
          refine lv_bipush (v := 9) hx hb dL_law_1071 (by decide) ?_
          refine lv_iload hx hb dL_law_1073 (lv_at hl 11 rfl) ?_
          refine lv_imul hx hb dL_law_1075 ?_
          refine lv_iconst (v := 1) hx hb dL_law_1076 (by decide) ?_
          refine lv_iadd hx hb dL_law_1077 ?_
          have ok_33 := And.left hok
          have hok := And.right hok
          refine la_I C hM 1 rfl ok_33 dL_law_1078 ?_
          refine lv_iload hx hb dL_law_1079 (lv_at hl 11 rfl) ?_
          refine lv_iload hx hb dL_law_1081 (lv_at hl 5 rfl) ?_
          refine lv_iload hx hb dL_law_1083 (lv_at hl 6 rfl) ?_
          obtain ⟨S9_34, w9_35, g9_36⟩ := hok
          refine lc_0 (av := [.ref q2, .ref q4, .int (mi μw_1017 1 (ix ((9 * w14_1017) + 1))), .int w14_1017, .int v7_1017, .int v8_1017]) C hM hAf [2, 3] rfl rfl (fun A9 => k_L_chance l D a A9 q2 q4 (mQ μw_1017 4 gq_32) (mi μw_1017 1 (ix ((9 * w14_1017) + 1))) w14_1017 v7_1017 v8_1017 S9_34 w9_35) cw_L_78 (okR_of hRf hRl (Nat.le_of_ble_eq_true rfl) (Nat.le_of_ble_eq_true rfl)) rfl rfl hl.1 (Nat.le_of_ble_eq_true rfl) (by omega) (by omega) dL_law_1085 (fun H locs v9 hM hP9 => ?_)
          obtain ⟨v9_38, hS_37, rfl⟩ := hP9
          have hM : HL D a x e0 A [(q0, .inl (a 0, 16, .inl ((mQ μw_1017 4 gq_32).1 0))), (q1, .inl (a 0, 64, .inl ((mQ μw_1017 4 gq_32).1 1))), (q2, .inl (a 0, 64, .inl ((mQ μw_1017 4 gq_32).1 2))), (q4, .inl (a 1, 16, .inr (.inl ((mQ μw_1017 4 gq_32).2 4))))] (some σ_1017) s.heap H locs := hM
          have hok := g9_36 v9_38 hS_37
          refine lv_lstore (lv' := [(15, .long v9_38), (1, .ref x), (2, .ref q0), (3, .ref q1), (4, .ref q2), (5, .int v5_1017), (7, .int v7_1017), (8, .int v8_1017), (9, .int v9_1017), (10, .int w10_1017), (11, .long w11_1017), (13, .ref q4), (14, .int w14_1017)]) hx hb dL_law_1088 hl (by decide) rfl (fun ls hl => ?_)
          refine lv_lload hx hb dL_law_1090 (lv_at hl 0 rfl) ?_
          refine lv_lload hx hb dL_law_1092 (lv_at hl 10 rfl) ?_
          refine W.lcmp hx hb dL_law_1094 ?_
          refine lv_if_le (tgt := 1106) hx hb dL_law_1095 (by decide) (fun c_39 => ?_) (fun c_39 => ?_)
          · have hok := oif_pos hok c_39
            refine W.widen (k := (k_1017 + 4682)) (n := (j_1017 + 18836)) (by omega) (by omega) ?_
            exact J_l1017_1106 w10_1017 w11_1017 w14_1017 (mQ μw_1017 4 gq_32) hok _ _ ls hM (lv_sub hl [1, 2, 3, 4, 5, 6, 7, 8, 9, 10, 11, 12] rfl)
          · have hok := oif_neg hok c_39
            refine lv_lload hx hb dL_law_1098 (lv_at hl 0 rfl) ?_
            refine lv_lstore (lv' := [(11, .long v9_38), (15, .long v9_38), (1, .ref x), (2, .ref q0), (3, .ref q1), (4, .ref q2), (5, .int v5_1017), (7, .int v7_1017), (8, .int v8_1017), (9, .int v9_1017), (10, .int w10_1017), (13, .ref q4), (14, .int w14_1017)]) hx hb dL_law_1100 hl (by decide) rfl (fun ls hl => ?_)
            refine lv_iload hx hb dL_law_1102 (lv_at hl 12 rfl) ?_
            refine lv_istore (lv' := [(10, .int w14_1017), (11, .long v9_38), (15, .long v9_38), (1, .ref x), (2, .ref q0), (3, .ref q1), (4, .ref q2), (5, .int v5_1017), (7, .int v7_1017), (8, .int v8_1017), (9, .int v9_1017), (13, .ref q4), (14, .int w14_1017)]) hx hb dL_law_1104 hl (by decide) rfl (fun ls hl => ?_)
            refine W.widen (k := (k_1017 + 4682)) (n := (j_1017 + 18836)) (by omega) (by omega) ?_
            exact J_l1017_1106 w14_1017 v9_38 w14_1017 (mQ μw_1017 4 gq_32) hok _ _ ls hM (lv_sub hl [3, 4, 5, 6, 7, 8, 9, 10, 0, 1, 11, 12] rfl)
        · have hok := oif_neg hok c_27
          refine lv_goto (tgt := 1106) hx hb dL_law_1052 (by decide) ?_
          refine W.widen (k := (k_1017 + 4682)) (n := (j_1017 + 18836)) (by omega) (by omega) ?_
          exact J_l1017_1106 w10_1017 w11_1017 w14_1017 μw_1017 hok _ _ ls hM (lv_sub hl [0, 1, 2, 3, 4, 5, 6, 7, 8, 9, 10, 11] rfl)
  have J_m960 : ∀ (q0 : Nat) (hA0 : A q0) (q1 : Nat) (hA1 : A q1) (q2 : Nat) (hA2 : A q2) (v5_960 : Int32) (v6_960 : Int32) (μ_960 : MS) (σ_960 : XS), w_L_law_m960 x K v5_960 v6_960 μ_960 σ_960 → ∀ (H : Heap) (locs : List Loc) (ls : Array Slot), HL D a x e0 A [(q0, .inl (a 0, 16, .inl (μ_960.1 0))), (q1, .inl (a 0, 64, .inl (μ_960.1 1))), (q2, .inl (a 0, 64, .inl (μ_960.1 2)))] (some σ_960) s.heap H locs → lv_has ls 17 [(0, .ref b), (1, .ref x), (2, .ref q0), (3, .ref q1), (4, .ref q2), (5, .int v5_960), (6, .int v6_960)] → W p l e R s m args below meth c H locs 464908 1911089 Q (F0 m 960 ls []) := by
    intro q0 hA0 q1 hA1 q2 hA2 v5_960 v6_960 μ_960 σ_960 hok H locs ls hM hl
    refine lv_aload_n hx hb dL_law_960 rfl (lv_at hl 0 rfl) ?_
    refine lv_iload hx hb dL_law_961 (lv_at hl 6 rfl) ?_
    have ok_1 := And.left hok
    have hok := And.right hok
    refine call0S (av := [.ref b, .int v6_960]) C (k_L_cell l D a b Lx xs v6_960 ok_1) cw_L_81 (okR_of hRf hRl (Nat.le_of_ble_eq_true rfl) (Nat.le_of_ble_eq_true rfl)) (fun U g mk z h => ⟨bk_blind g mk z h.1, h.2⟩) (fun U hU hW => ⟨va_K.moved hW.alike C.2, by rw [hU]; exact (hX.kept (hM.2.2.1.2.1 b hb0 hbA)).moved hW.alike⟩) rfl rfl hl.1 (Nat.le_of_ble_eq_true rfl) (by omega) (by omega) dL_law_963 ?_
    have hok := hok (f_L_cell Lx xs v6_960)
    generalize f_L_cell Lx xs v6_960 = v9_2 at hok ⊢
    refine lv_bipush (v := 100) hx hb dL_law_966 (by decide) ?_
    refine lc_S (av := [.int v9_2, .int 100]) C (k_L_low l D a v9_2 100 (by decide)) cw_L_70 (okR_of hRf hRl (Nat.le_of_ble_eq_true rfl) (Nat.le_of_ble_eq_true rfl)) rfl rfl hl.1 (Nat.le_of_ble_eq_true rfl) (by omega) (by omega) dL_law_968 ?_
    refine lv_istore (lv' := [(7, .int (f_L_low v9_2 100)), (0, .ref b), (1, .ref x), (2, .ref q0), (3, .ref q1), (4, .ref q2), (5, .int v5_960), (6, .int v6_960)]) hx hb dL_law_971 hl (by decide) rfl (fun ls hl => ?_)
    refine lv_aload_n hx hb dL_law_973 rfl (lv_at hl 1 rfl) ?_
    refine lv_iload hx hb dL_law_974 (lv_at hl 7 rfl) ?_
    refine lv_iconst (v := 1) hx hb dL_law_976 (by decide) ?_
    refine lv_iadd hx hb dL_law_977 ?_
    have ok_3 := And.left hok
    have hok := And.right hok
    refine call0S (av := [.ref b, .int (v6_960 + 1)]) C (k_L_cell l D a b Lx xs (v6_960 + 1) ok_3) cw_L_81 (okR_of hRf hRl (Nat.le_of_ble_eq_true rfl) (Nat.le_of_ble_eq_true rfl)) (fun U g mk z h => ⟨bk_blind g mk z h.1, h.2⟩) (fun U hU hW => ⟨va_K.moved hW.alike C.2, by rw [hU]; exact (hX.kept (hM.2.2.1.2.1 b hb0 hbA)).moved hW.alike⟩) rfl rfl hl.1 (Nat.le_of_ble_eq_true rfl) (by omega) (by omega) dL_law_978 ?_
    have hok := hok (f_L_cell Lx xs (v6_960 + 1))
    generalize f_L_cell Lx xs (v6_960 + 1) = v9_4 at hok ⊢
    refine lv_bipush (v := 100) hx hb dL_law_981 (by decide) ?_
    refine lc_S (av := [.int v9_4, .int 100]) C (k_L_low l D a v9_4 100 (by decide)) cw_L_70 (okR_of hRf hRl (Nat.le_of_ble_eq_true rfl) (Nat.le_of_ble_eq_true rfl)) rfl rfl hl.1 (Nat.le_of_ble_eq_true rfl) (by omega) (by omega) dL_law_983 ?_
    refine lv_istore (lv' := [(8, .int (f_L_low v9_4 100)), (7, .int (f_L_low v9_2 100)), (0, .ref b), (1, .ref x), (2, .ref q0), (3, .ref q1), (4, .ref q2), (5, .int v5_960), (6, .int v6_960)]) hx hb dL_law_986 hl (by decide) rfl (fun ls hl => ?_)
    refine lv_aload_n hx hb dL_law_988 rfl (lv_at hl 2 rfl) ?_
    refine lv_iload hx hb dL_law_989 (lv_at hl 8 rfl) ?_
    refine lv_iconst (v := 2) hx hb dL_law_991 (by decide) ?_
    refine lv_iadd hx hb dL_law_992 ?_
    have ok_5 := And.left hok
    have hok := And.right hok
    refine call0S (av := [.ref b, .int (v6_960 + 2)]) C (k_L_cell l D a b Lx xs (v6_960 + 2) ok_5) cw_L_81 (okR_of hRf hRl (Nat.le_of_ble_eq_true rfl) (Nat.le_of_ble_eq_true rfl)) (fun U g mk z h => ⟨bk_blind g mk z h.1, h.2⟩) (fun U hU hW => ⟨va_K.moved hW.alike C.2, by rw [hU]; exact (hX.kept (hM.2.2.1.2.1 b hb0 hbA)).moved hW.alike⟩) rfl rfl hl.1 (Nat.le_of_ble_eq_true rfl) (by omega) (by omega) dL_law_993 ?_
    have hok := hok (f_L_cell Lx xs (v6_960 + 2))
    generalize f_L_cell Lx xs (v6_960 + 2) = v9_6 at hok ⊢
    refine lv_iconst (v := 2) hx hb dL_law_996 (by decide) ?_
    refine lc_S (av := [.int v9_6, .int 2]) C (k_L_low l D a v9_6 2 (by decide)) cw_L_70 (okR_of hRf hRl (Nat.le_of_ble_eq_true rfl) (Nat.le_of_ble_eq_true rfl)) rfl rfl hl.1 (Nat.le_of_ble_eq_true rfl) (by omega) (by omega) dL_law_997 ?_
    refine lv_istore (lv' := [(9, .int (f_L_low v9_6 2)), (8, .int (f_L_low v9_4 100)), (7, .int (f_L_low v9_2 100)), (0, .ref b), (1, .ref x), (2, .ref q0), (3, .ref q1), (4, .ref q2), (5, .int v5_960), (6, .int v6_960)]) hx hb dL_law_1000 hl (by decide) rfl (fun ls hl => ?_)
    refine lv_iconst (v := (-1)) hx hb dL_law_1002 (by decide) ?_
    refine lv_istore (lv' := [(10, .int (-1)), (9, .int (f_L_low v9_6 2)), (8, .int (f_L_low v9_4 100)), (7, .int (f_L_low v9_2 100)), (0, .ref b), (1, .ref x), (2, .ref q0), (3, .ref q1), (4, .ref q2), (5, .int v5_960), (6, .int v6_960)]) hx hb dL_law_1003 hl (by decide) rfl (fun ls hl => ?_)
    refine lv_lconst (v := 0) hx hb dL_law_1005 (by decide) ?_
    refine lv_lstore (lv' := [(11, .long 0), (10, .int (-1)), (9, .int (f_L_low v9_6 2)), (8, .int (f_L_low v9_4 100)), (7, .int (f_L_low v9_2 100)), (0, .ref b), (1, .ref x), (2, .ref q0), (3, .ref q1), (4, .ref q2), (5, .int v5_960), (6, .int v6_960)]) hx hb dL_law_1006 hl (by decide) rfl (fun ls hl => ?_)
    refine lv_bipush (v := nI 16) hx hb dL_law_1008 (by decide) ?_
    refine ln_J C hM hAf (N := 16) (by omega) (by omega) (by omega) dL_law_1010 (fun q4 H locs hA4 hM => ?_)
    have hM : HL D a x e0 A [(q0, .inl (a 0, 16, .inl ((mZJ μ_960 4).1 0))), (q1, .inl (a 0, 64, .inl ((mZJ μ_960 4).1 1))), (q2, .inl (a 0, 64, .inl ((mZJ μ_960 4).1 2))), (q4, .inl (a 1, 16, .inr (.inl ((mZJ μ_960 4).2 4))))] (some σ_960) s.heap H locs := hM
    refine lv_astore (lv' := [(13, .ref q4), (11, .long 0), (10, .int (-1)), (9, .int (f_L_low v9_6 2)), (8, .int (f_L_low v9_4 100)), (7, .int (f_L_low v9_2 100)), (0, .ref b), (1, .ref x), (2, .ref q0), (3, .ref q1), (4, .ref q2), (5, .int v5_960), (6, .int v6_960)]) hx hb dL_law_1012 hl (by decide) rfl (fun ls hl => ?_)
    refine lv_iconst (v := 0) hx hb dL_law_1014 (by decide) ?_
    refine lv_istore (lv' := [(14, .int 0), (13, .ref q4), (11, .long 0), (10, .int (-1)), (9, .int (f_L_low v9_6 2)), (8, .int (f_L_low v9_4 100)), (7, .int (f_L_low v9_2 100)), (0, .ref b), (1, .ref x), (2, .ref q0), (3, .ref q1), (4, .ref q2), (5, .int v5_960), (6, .int v6_960)]) hx hb dL_law_1015 hl (by decide) rfl (fun ls hl => ?_)
    refine W.widen (k := 464909) (n := 1911105) (by omega) (by omega) ?_
    exact J_m1017 q0 hA0 q1 hA1 q2 hA2 q4 hA4 v5_960 (f_L_low v9_2 100) (f_L_low v9_4 100) (f_L_low v9_6 2) (-1) 0 0 (mZJ μ_960 4) σ_960 hok _ _ ls hM (lv_sub hl [8, 9, 10, 11, 12, 6, 5, 4, 3, 2, 1, 0] rfl)
  have J_m140 : ∀ (q0 : Nat) (hA0 : A q0) (q1 : Nat) (hA1 : A q1) (q2 : Nat) (hA2 : A q2) (v5_140 : Int32) (v6_140 : Int32) (v7_140 : Int32) (μ_140 : MS) (σ_140 : XS), w_L_law_m140 x K v5_140 v6_140 v7_140 μ_140 σ_140 → ∀ (H : Heap) (locs : List Loc) (ls : Array Slot), HL D a x e0 A [(q0, .inl (a 0, 16, .inl (μ_140.1 0))), (q1, .inl (a 0, 64, .inl (μ_140.1 1))), (q2, .inl (a 0, 64, .inl (μ_140.1 2)))] (some σ_140) s.heap H locs → lv_has ls 17 [(0, .ref b), (1, .ref x), (2, .ref q0), (3, .ref q1), (4, .ref q2), (5, .int v5_140), (6, .int v6_140), (7, .int v7_140)] → W p l e R s m args below meth c H locs 328 28749 Q (F0 m 140 ls []) := by
    intro q0 hA0 q1 hA1 q2 hA2 v5_140 v6_140 v7_140 μ_140 σ_140 hok H locs ls hM hl
    obtain ⟨I9_40, i9_41, n9_42, s9_43⟩ := hok
    refine inv_W (I := I9_40) (fun (n : Nat) (v : Int32 × Int32 × Int32 × MS × XS) => ∀ (k j : Nat) (H : Heap) (locs : List Loc) (ls : Array Slot), k + bud n 46458 ≤ 464908 → j + bud n 188234 ≤ 1911089 → HL D a x e0 A [(q0, .inl (a 0, 16, .inl (v.2.2.2.1.1 0))), (q1, .inl (a 0, 64, .inl (v.2.2.2.1.1 1))), (q2, .inl (a 0, 64, .inl (v.2.2.2.1.1 2)))] (some v.2.2.2.2) s.heap H locs → lv_has ls 17 [(0, .ref b), (1, .ref x), (2, .ref q0), (3, .ref q1), (4, .ref q2), (5, .int v.1), (6, .int v.2.1), (7, .int v.2.2.1)] → W p l e R s m args below meth c H locs k j Q (F0 m 140 ls [])) n9_42 (fun n_140 v hI9 kc9 => ?_) 10 (v5_140, v6_140, v7_140, μ_140, σ_140) i9_41 _ _ _ _ ls (bud_e (t := 464580) (by omega) rfl) (bud_e (t := 1882340) (by omega) rfl) hM (lv_sub hl [0, 1, 2, 3, 4, 5, 6, 7] rfl)
    obtain ⟨w5_140, w6_140, w7_140, μw_140, σw_140⟩ := v
    have hok : b_L_law_140 x K w5_140 w6_140 w7_140 μw_140 σw_140 (I9_40 n_140) (fun (v : Int32 × Int32 × Int32 × MS × XS) => (w_L_law_m960 x K v.1 v.2.1 v.2.2.2.1 v.2.2.2.2)) := s9_43 n_140 (w5_140, w6_140, w7_140, μw_140, σw_140) hI9
    intro k_140 j_140 H locs ls hk_140 hj_140 hM hl
    replace hk_140 := bud_s hk_140
    replace hj_140 := bud_s hj_140
    have J_l140_954 : ∀  (v5_954 : Int32) (v6_954 : Int32) (v7_954 : Int32) (μ_954 : MS) (σ_954 : XS), w_L_law_l140_954 x K w5_140 w6_140 w7_140 μw_140 σw_140 (I9_40 n_140) (fun (v : Int32 × Int32 × Int32 × MS × XS) => (w_L_law_m960 x K v.1 v.2.1 v.2.2.2.1 v.2.2.2.2)) v5_954 v6_954 v7_954 μ_954 σ_954 → ∀ (H : Heap) (locs : List Loc) (ls : Array Slot), HL D a x e0 A [(q0, .inl (a 0, 16, .inl (μ_954.1 0))), (q1, .inl (a 0, 64, .inl (μ_954.1 1))), (q2, .inl (a 0, 64, .inl (μ_954.1 2)))] (some σ_954) s.heap H locs → lv_has ls 17 [(0, .ref b), (1, .ref x), (2, .ref q0), (3, .ref q1), (4, .ref q2), (5, .int v5_954), (6, .int v6_954), (7, .int v7_954)] → W p l e R s m args below meth c H locs (k_140 + 46458) (j_140 + 188234) Q (F0 m 954 ls []) := by
      intro v5_954 v6_954 v7_954 μ_954 σ_954 hok H locs ls hM hl
      refine lv_iinc (v := (v7_954 + 1)) (lv' := [(7, .int (v7_954 + 1)), (0, .ref b), (1, .ref x), (2, .ref q0), (3, .ref q1), (4, .ref q2), (5, .int v5_954), (6, .int v6_954)]) hx hb dL_law_954 hl (k := 7) rfl rfl (by decide) rfl (fun ls hl => ?_)
      refine lv_goto (tgt := 140) hx hb dL_law_957 (by decide) ?_
      exact kc9 (v5_954, v6_954, (v7_954 + 1), μ_954, σ_954) hok _ _ _ _ _ (by omega) (by omega) hM (lv_sub hl [1, 2, 3, 4, 5, 6, 7, 0] rfl)
    have J_l140_928 : ∀  (v5_928 : Int32) (v6_928 : Int32) (v7_928 : Int32) (v9_928 : Int32) (μ_928 : MS) (σ_928 : XS), w_L_law_l140_928 x K w5_140 w6_140 w7_140 μw_140 σw_140 (I9_40 n_140) (fun (v : Int32 × Int32 × Int32 × MS × XS) => (w_L_law_m960 x K v.1 v.2.1 v.2.2.2.1 v.2.2.2.2)) v5_928 v6_928 v7_928 v9_928 μ_928 σ_928 → ∀ (H : Heap) (locs : List Loc) (ls : Array Slot), HL D a x e0 A [(q0, .inl (a 0, 16, .inl (μ_928.1 0))), (q1, .inl (a 0, 64, .inl (μ_928.1 1))), (q2, .inl (a 0, 64, .inl (μ_928.1 2)))] (some σ_928) s.heap H locs → lv_has ls 17 [(0, .ref b), (1, .ref x), (2, .ref q0), (3, .ref q1), (4, .ref q2), (5, .int v5_928), (6, .int v6_928), (7, .int v7_928), (9, .int v9_928)] → W p l e R s m args below meth c H locs (k_140 + 4707) (j_140 + 19880) Q (F0 m 928 ls []) := by
      intro v5_928 v6_928 v7_928 v9_928 μ_928 σ_928 hok H locs ls hM hl
      refine lv_iload hx hb dL_law_928 (lv_at hl 7 rfl) ?_
      refine lv_iconst (v := 2) hx hb dL_law_930 (by decide) ?_
      refine lv_irem hx hb dL_law_931 (by decide) ?_
      refine lv_if_ne (tgt := 954) hx hb dL_law_932 (by decide) (fun c_64 => ?_) (fun c_64 => ?_)
      · have hok := oif_neg hok c_64
        refine W.widen (k := (k_140 + 46458)) (n := (j_140 + 188234)) (by omega) (by omega) ?_
        exact J_l140_954 v5_928 v6_928 v7_928 μ_928 σ_928 hok _ _ ls hM (lv_sub hl [0, 1, 2, 3, 4, 5, 6, 7] rfl)
      · have hok := oif_pos hok c_64
        refine lv_aload_n hx hb dL_law_935 rfl (lv_at hl 1 rfl) ?_
        refine lv_aload_n hx hb dL_law_936 rfl (lv_at hl 2 rfl) ?_
        refine lv_aload_n hx hb dL_law_937 rfl (lv_at hl 3 rfl) ?_
        refine lv_aload hx hb dL_law_938 (lv_at hl 4 rfl) ?_
        refine lv_iload hx hb dL_law_940 (lv_at hl 5 rfl) ?_
        refine lv_iload hx hb dL_law_942 (lv_at hl 8 rfl) ?_
        refine lv_iconst (v := 5) hx hb dL_law_944 (by decide) ?_
        refine lv_ishr hx hb dL_law_945 ?_
        obtain ⟨S9_67, w9_68, g9_69⟩ := hok
        refine lc_R (av := [.ref x, .ref q0, .ref q1, .ref q2, .int v5_928, .int (v9_928 >>> ((5 : Int32) &&& 31))]) C hM hE [0, 1, 2] rfl rfl (fun A9 hn9 => k_L_right l D a x e0 A9 hfl q0 q1 q2 μ_928 σ_928 v5_928 (v9_928 >>> ((5 : Int32) &&& 31)) S9_67 hn9 w9_68) cw_L_108 (okR_of hRf hRl (Nat.le_of_ble_eq_true rfl) (Nat.le_of_ble_eq_true rfl)) rfl rfl hl.1 (Nat.le_of_ble_eq_true rfl) (by omega) (by omega) dL_law_946 (fun H locs v9 hX9 hP9 => ?_)
        obtain ⟨v9_65, σ9_66, hS_70, rfl, hX8⟩ := hP9
        have hM : HL D a x e0 A [(q0, .inl (a 0, 16, .inl (μ_928.1 0))), (q1, .inl (a 0, 64, .inl (μ_928.1 1))), (q2, .inl (a 0, 64, .inl (μ_928.1 2)))] (some σ9_66) s.heap H locs := hX9 _ hX8
        have hok := g9_69 v9_65 σ9_66 hS_70
        refine lv_if_ne (tgt := 954) hx hb dL_law_949 (by decide) (fun c_71 => ?_) (fun c_71 => ?_)
        · have hok := oif_neg hok c_71
          refine W.widen (k := (k_140 + 46458)) (n := (j_140 + 188234)) (by omega) (by omega) ?_
          exact J_l140_954 v5_928 v6_928 v7_928 μ_928 σ9_66 hok _ _ ls hM (lv_sub hl [0, 1, 2, 3, 4, 5, 6, 7] rfl)
        · have hok := oif_pos hok c_71
          refine lv_iconst (v := 0) hx hb dL_law_952 (by decide) ?_
          refine W.widen (k := R.cells) (n := R.slots) (by omega) (by omega) ?_
          exact ret _ _ _ _ _ hM.2.2.1 dL_law_953 hok
    have J_l140_883 : ∀ (q4 : Nat) (hA4 : A q4) (v5_883 : Int32) (v6_883 : Int32) (v7_883 : Int32) (v9_883 : Int32) (v10_883 : Int32) (v12_883 : Int32) (v13_883 : Int32) (v14_883 : Int32) (μ_883 : MS) (σ_883 : XS), w_L_law_l140_883 x K w5_140 w6_140 w7_140 μw_140 σw_140 (I9_40 n_140) (fun (v : Int32 × Int32 × Int32 × MS × XS) => (w_L_law_m960 x K v.1 v.2.1 v.2.2.2.1 v.2.2.2.2)) v5_883 v6_883 v7_883 v9_883 v10_883 v12_883 v13_883 v14_883 μ_883 σ_883 → ∀ (H : Heap) (locs : List Loc) (ls : Array Slot), HL D a x e0 A [(q0, .inl (a 0, 16, .inl (μ_883.1 0))), (q1, .inl (a 0, 64, .inl (μ_883.1 1))), (q2, .inl (a 0, 64, .inl (μ_883.1 2))), (q4, .inl (a 1, 16, .inr (.inl (μ_883.2 4))))] (some σ_883) s.heap H locs → lv_has ls 17 [(0, .ref b), (1, .ref x), (2, .ref q0), (3, .ref q1), (4, .ref q2), (5, .int v5_883), (6, .int v6_883), (7, .int v7_883), (9, .int v9_883), (10, .int v10_883), (11, .ref q4), (12, .int v12_883), (13, .int v13_883), (14, .int v14_883)] → W p l e R s m args below meth c H locs (k_140 + 4701) (j_140 + 19551) Q (F0 m 883 ls []) := by
      intro q4 hA4 v5_883 v6_883 v7_883 v9_883 v10_883 v12_883 v13_883 v14_883 μ_883 σ_883 hok H locs ls hM hl
      refine lv_aload_n hx hb dL_law_883 rfl (lv_at hl 1 rfl) ?_
      refine lv_iload hx hb dL_law_884 (lv_at hl 9 rfl) ?_
      refine lv_iload hx hb dL_law_886 (lv_at hl 11 rfl) ?_
      refine lv_iload hx hb dL_law_888 (lv_at hl 12 rfl) ?_
      refine lv_aload hx hb dL_law_890 (lv_at hl 4 rfl) ?_
      refine lv_iload hx hb dL_law_892 (lv_at hl 13 rfl) ?_
      refine lv_iconst (v := 3) hx hb dL_law_894 (by decide) ?_
      refine lv_iadd hx hb dL_law_895 ?_
      have ok_86 := And.left hok
      have hok := And.right hok
      refine la_I C hM 2 rfl ok_86 dL_law_896 ?_
      have ok_87 := And.left hok
      have hok := And.right hok
      refine lx_m (av := [.int v10_883, .int v12_883, .int v13_883, .int (mi μ_883 2 (ix (v14_883 + 3)))]) C hM hE hok (fun B => k_X10_walk l D a x e0 B hfl σ_883 v10_883 v12_883 v13_883 (mi μ_883 2 (ix (v14_883 + 3))) ok_87) cw_L_104 (okR_of hRf hRl (Nat.le_of_ble_eq_true rfl) (Nat.le_of_ble_eq_true rfl)) rfl rfl hl.1 (Nat.le_of_ble_eq_true rfl) (by omega) (by omega) dL_law_897 (fun v9_88 σ9_89 H locs hok hM => ?_)
      have hM : HL D a x e0 A [(q0, .inl (a 0, 16, .inl (μ_883.1 0))), (q1, .inl (a 0, 64, .inl (μ_883.1 1))), (q2, .inl (a 0, 64, .inl (μ_883.1 2))), (q4, .inl (a 1, 16, .inr (.inl (μ_883.2 4))))] (some σ9_89) s.heap H locs := hM
      refine lv_aload hx hb dL_law_900 (lv_at hl 4 rfl) ?_
      refine lv_aload hx hb dL_law_902 (lv_at hl 10 rfl) ?_
      refine lv_aload_n hx hb dL_law_904 rfl (lv_at hl 3 rfl) ?_
      refine lv_bipush (v := 9) hx hb dL_law_905 (by decide) ?_
      refine lv_iload hx hb dL_law_907 (lv_at hl 9 rfl) ?_
      refine lv_imul hx hb dL_law_909 ?_
      refine lv_iconst (v := 1) hx hb dL_law_910 (by decide) ?_
      refine lv_iadd hx hb dL_law_911 ?_
      have ok_90 := And.left hok
      have hok := And.right hok
      refine la_I C hM 1 rfl ok_90 dL_law_912 ?_
      refine lv_iload hx hb dL_law_913 (lv_at hl 9 rfl) ?_
      refine lv_iload hx hb dL_law_915 (lv_at hl 11 rfl) ?_
      refine lv_iload hx hb dL_law_917 (lv_at hl 12 rfl) ?_
      obtain ⟨S9_91, w9_92, g9_93⟩ := hok
      refine lc_0 (av := [.ref q2, .ref q4, .int (mi μ_883 1 (ix ((9 * v10_883) + 1))), .int v10_883, .int v12_883, .int v13_883]) C hM hAf [2, 3] rfl rfl (fun A9 => k_L_chance l D a A9 q2 q4 μ_883 (mi μ_883 1 (ix ((9 * v10_883) + 1))) v10_883 v12_883 v13_883 S9_91 w9_92) cw_L_78 (okR_of hRf hRl (Nat.le_of_ble_eq_true rfl) (Nat.le_of_ble_eq_true rfl)) rfl rfl hl.1 (Nat.le_of_ble_eq_true rfl) (by omega) (by omega) dL_law_919 (fun H locs v9 hM hP9 => ?_)
      obtain ⟨v9_95, hS_94, rfl⟩ := hP9
      have hM : HL D a x e0 A [(q0, .inl (a 0, 16, .inl (μ_883.1 0))), (q1, .inl (a 0, 64, .inl (μ_883.1 1))), (q2, .inl (a 0, 64, .inl (μ_883.1 2))), (q4, .inl (a 1, 16, .inr (.inl (μ_883.2 4))))] (some σ9_89) s.heap H locs := hM
      have hok := g9_93 v9_95 hS_94
      refine W.lcmp hx hb dL_law_922 ?_
      refine lv_if_eq (tgt := 928) hx hb dL_law_923 (by decide) (fun c_96 => ?_) (fun c_96 => ?_)
      · have hok := oif_pos hok c_96
        have hM : HL D a x e0 A [(q0, .inl (a 0, 16, .inl (μ_883.1 0))), (q1, .inl (a 0, 64, .inl (μ_883.1 1))), (q2, .inl (a 0, 64, .inl (μ_883.1 2)))] (some σ9_89) s.heap H locs := hM.sub [0, 1, 2] rfl rfl
        refine W.widen (k := (k_140 + 4707)) (n := (j_140 + 19880)) (by omega) (by omega) ?_
        exact J_l140_928 v5_883 v6_883 v7_883 v9_883 μ_883 σ9_89 hok _ _ ls hM (lv_sub hl [0, 1, 2, 3, 4, 5, 6, 7, 8] rfl)
      · have hok := oif_neg hok c_96
        refine lv_iconst (v := 0) hx hb dL_law_926 (by decide) ?_
        refine W.widen (k := R.cells) (n := R.slots) (by omega) (by omega) ?_
        exact ret _ _ _ _ _ hM.2.2.1 dL_law_927 hok
    have J_l140_874 : ∀ (q4 : Nat) (hA4 : A q4) (v5_874 : Int32) (v6_874 : Int32) (v7_874 : Int32) (v9_874 : Int32) (v10_874 : Int32) (v12_874 : Int32) (v13_874 : Int32) (v14_874 : Int32) (μ_874 : MS) (σ_874 : XS), w_L_law_l140_874 x K w5_140 w6_140 w7_140 μw_140 σw_140 (I9_40 n_140) (fun (v : Int32 × Int32 × Int32 × MS × XS) => (w_L_law_m960 x K v.1 v.2.1 v.2.2.2.1 v.2.2.2.2)) v5_874 v6_874 v7_874 v9_874 v10_874 v12_874 v13_874 v14_874 μ_874 σ_874 → ∀ (H : Heap) (locs : List Loc) (ls : Array Slot), HL D a x e0 A [(q0, .inl (a 0, 16, .inl (μ_874.1 0))), (q1, .inl (a 0, 64, .inl (μ_874.1 1))), (q2, .inl (a 0, 64, .inl (μ_874.1 2))), (q4, .inl (a 1, 16, .inr (.inl (μ_874.2 4))))] (some σ_874) s.heap H locs → lv_has ls 17 [(0, .ref b), (1, .ref x), (2, .ref q0), (3, .ref q1), (4, .ref q2), (5, .int v5_874), (6, .int v6_874), (7, .int v7_874), (9, .int v9_874), (10, .int v10_874), (11, .ref q4), (12, .int v12_874), (13, .int v13_874), (14, .int v14_874)] → W p l e R s m args below meth c H locs (k_140 + 4701) (j_140 + 19551) Q (F0 m 874 ls []) := by
      intro q4 hA4 v5_874 v6_874 v7_874 v9_874 v10_874 v12_874 v13_874 v14_874 μ_874 σ_874 hok H locs ls hM hl
      refine lv_aload hx hb dL_law_874 (lv_at hl 4 rfl) ?_
      refine lv_bipush (v := 10) hx hb dL_law_876 (by decide) ?_
      refine lv_dup2_11 hx hb dL_law_878 rfl rfl ?_
      refine la_I C hM 2 rfl (lit_in (by decide) (by decide)) dL_law_879 ?_
      refine lv_iconst (v := 1) hx hb dL_law_880 (by decide) ?_
      refine lv_iadd hx hb dL_law_881 ?_
      refine ls_I C hM 2 rfl hA2 (lit_in (by decide) (by decide)) dL_law_882 (fun H locs hM => ?_)
      have hM : HL D a x e0 A [(q0, .inl (a 0, 16, .inl ((mI μ_874 2 (ix 10) ((mi μ_874 2 (ix 10)) + 1)).1 0))), (q1, .inl (a 0, 64, .inl ((mI μ_874 2 (ix 10) ((mi μ_874 2 (ix 10)) + 1)).1 1))), (q2, .inl (a 0, 64, .inl ((mI μ_874 2 (ix 10) ((mi μ_874 2 (ix 10)) + 1)).1 2))), (q4, .inl (a 1, 16, .inr (.inl ((mI μ_874 2 (ix 10) ((mi μ_874 2 (ix 10)) + 1)).2 4))))] (some σ_874) s.heap H locs := hM
      refine W.widen (k := (k_140 + 4701)) (n := (j_140 + 19551)) (by omega) (by omega) ?_
      exact J_l140_883 q4 hA4 v5_874 v6_874 v7_874 v9_874 v10_874 v12_874 v13_874 v14_874 (mI μ_874 2 (ix 10) ((mi μ_874 2 (ix 10)) + 1)) σ_874 hok _ _ ls hM (lv_sub hl [0, 1, 2, 3, 4, 5, 6, 7, 8, 9, 10, 11, 12, 13] rfl)
    have J_l140_855 : ∀ (q4 : Nat) (hA4 : A q4) (v5_855 : Int32) (v6_855 : Int32) (v7_855 : Int32) (v8_855 : Int32) (v9_855 : Int32) (v10_855 : Int32) (v12_855 : Int32) (v13_855 : Int32) (v14_855 : Int32) (μ_855 : MS) (σ_855 : XS), w_L_law_l140_855 x K w5_140 w6_140 w7_140 μw_140 σw_140 (I9_40 n_140) (fun (v : Int32 × Int32 × Int32 × MS × XS) => (w_L_law_m960 x K v.1 v.2.1 v.2.2.2.1 v.2.2.2.2)) v5_855 v6_855 v7_855 v8_855 v9_855 v10_855 v12_855 v13_855 v14_855 μ_855 σ_855 → ∀ (H : Heap) (locs : List Loc) (ls : Array Slot), HL D a x e0 A [(q0, .inl (a 0, 16, .inl (μ_855.1 0))), (q1, .inl (a 0, 64, .inl (μ_855.1 1))), (q2, .inl (a 0, 64, .inl (μ_855.1 2))), (q4, .inl (a 1, 16, .inr (.inl (μ_855.2 4))))] (some σ_855) s.heap H locs → lv_has ls 17 [(0, .ref b), (1, .ref x), (2, .ref q0), (3, .ref q1), (4, .ref q2), (5, .int v5_855), (6, .int v6_855), (7, .int v7_855), (8, .int v8_855), (9, .int v9_855), (10, .int v10_855), (11, .ref q4), (12, .int v12_855), (13, .int v13_855), (14, .int v14_855)] → W p l e R s m args below meth c H locs (k_140 + 4701) (j_140 + 19551) Q (F0 m 855 ls []) := by
      intro q4 hA4 v5_855 v6_855 v7_855 v8_855 v9_855 v10_855 v12_855 v13_855 v14_855 μ_855 σ_855 hok H locs ls hM hl
      refine lv_aload hx hb dL_law_855 (lv_at hl 4 rfl) ?_
      refine lv_iload hx hb dL_law_857 (lv_at hl 14 rfl) ?_
      refine lv_iconst (v := 3) hx hb dL_law_859 (by decide) ?_
      refine lv_iadd hx hb dL_law_860 ?_
      refine lv_iconst (v := 1) hx hb dL_law_861 (by decide) ?_
      refine lv_iload hx hb dL_law_862 (lv_at hl 8 rfl) ?_
      refine lv_bipush (v := 20) hx hb dL_law_864 (by decide) ?_
      refine lv_ishr hx hb dL_law_866 ?_
      refine lv_bipush (v := 100) hx hb dL_law_867 (by decide) ?_
      refine lc_S (av := [.int (v8_855 >>> ((20 : Int32) &&& 31)), .int 100]) C (k_L_low l D a (v8_855 >>> ((20 : Int32) &&& 31)) 100 (by decide)) cw_L_70 (okR_of hRf hRl (Nat.le_of_ble_eq_true rfl) (Nat.le_of_ble_eq_true rfl)) rfl rfl hl.1 (Nat.le_of_ble_eq_true rfl) (by omega) (by omega) dL_law_869 ?_
      refine lv_iadd hx hb dL_law_872 ?_
      have ok_85 := And.left hok
      have hok := And.right hok
      refine ls_I C hM 2 rfl hA2 ok_85 dL_law_873 (fun H locs hM => ?_)
      have hM : HL D a x e0 A [(q0, .inl (a 0, 16, .inl ((mI μ_855 2 (ix (v14_855 + 3)) (1 + (f_L_low (v8_855 >>> ((20 : Int32) &&& 31)) 100))).1 0))), (q1, .inl (a 0, 64, .inl ((mI μ_855 2 (ix (v14_855 + 3)) (1 + (f_L_low (v8_855 >>> ((20 : Int32) &&& 31)) 100))).1 1))), (q2, .inl (a 0, 64, .inl ((mI μ_855 2 (ix (v14_855 + 3)) (1 + (f_L_low (v8_855 >>> ((20 : Int32) &&& 31)) 100))).1 2))), (q4, .inl (a 1, 16, .inr (.inl ((mI μ_855 2 (ix (v14_855 + 3)) (1 + (f_L_low (v8_855 >>> ((20 : Int32) &&& 31)) 100))).2 4))))] (some σ_855) s.heap H locs := hM
      refine W.widen (k := (k_140 + 4701)) (n := (j_140 + 19551)) (by omega) (by omega) ?_
      exact J_l140_874 q4 hA4 v5_855 v6_855 v7_855 v9_855 v10_855 v12_855 v13_855 v14_855 (mI μ_855 2 (ix (v14_855 + 3)) (1 + (f_L_low (v8_855 >>> ((20 : Int32) &&& 31)) 100))) σ_855 hok _ _ ls hM (lv_sub hl [0, 1, 2, 3, 4, 5, 6, 7, 9, 10, 11, 12, 13, 14] rfl)
    have J_l140_846 : ∀ (q4 : Nat) (hA4 : A q4) (v5_846 : Int32) (v6_846 : Int32) (v7_846 : Int32) (v8_846 : Int32) (v9_846 : Int32) (v10_846 : Int32) (v12_846 : Int32) (v13_846 : Int32) (v14_846 : Int32) (μ_846 : MS) (σ_846 : XS), w_L_law_l140_846 x K w5_140 w6_140 w7_140 μw_140 σw_140 (I9_40 n_140) (fun (v : Int32 × Int32 × Int32 × MS × XS) => (w_L_law_m960 x K v.1 v.2.1 v.2.2.2.1 v.2.2.2.2)) v5_846 v6_846 v7_846 v8_846 v9_846 v10_846 v12_846 v13_846 v14_846 μ_846 σ_846 → ∀ (H : Heap) (locs : List Loc) (ls : Array Slot), HL D a x e0 A [(q0, .inl (a 0, 16, .inl (μ_846.1 0))), (q1, .inl (a 0, 64, .inl (μ_846.1 1))), (q2, .inl (a 0, 64, .inl (μ_846.1 2))), (q4, .inl (a 1, 16, .inr (.inl (μ_846.2 4))))] (some σ_846) s.heap H locs → lv_has ls 17 [(0, .ref b), (1, .ref x), (2, .ref q0), (3, .ref q1), (4, .ref q2), (5, .int v5_846), (6, .int v6_846), (7, .int v7_846), (8, .int v8_846), (9, .int v9_846), (10, .int v10_846), (11, .ref q4), (12, .int v12_846), (13, .int v13_846), (14, .int v14_846)] → W p l e R s m args below meth c H locs (k_140 + 4701) (j_140 + 19551) Q (F0 m 846 ls []) := by
      intro q4 hA4 v5_846 v6_846 v7_846 v8_846 v9_846 v10_846 v12_846 v13_846 v14_846 μ_846 σ_846 hok H locs ls hM hl
      refine lv_aload hx hb dL_law_846 (lv_at hl 4 rfl) ?_
      refine lv_iload hx hb dL_law_848 (lv_at hl 14 rfl) ?_
      refine lv_iconst (v := 2) hx hb dL_law_850 (by decide) ?_
      refine lv_iadd hx hb dL_law_851 ?_
      refine lv_iload hx hb dL_law_852 (lv_at hl 13 rfl) ?_
      have ok_84 := And.left hok
      have hok := And.right hok
      refine ls_I C hM 2 rfl hA2 ok_84 dL_law_854 (fun H locs hM => ?_)
      have hM : HL D a x e0 A [(q0, .inl (a 0, 16, .inl ((mI μ_846 2 (ix (v14_846 + 2)) v13_846).1 0))), (q1, .inl (a 0, 64, .inl ((mI μ_846 2 (ix (v14_846 + 2)) v13_846).1 1))), (q2, .inl (a 0, 64, .inl ((mI μ_846 2 (ix (v14_846 + 2)) v13_846).1 2))), (q4, .inl (a 1, 16, .inr (.inl ((mI μ_846 2 (ix (v14_846 + 2)) v13_846).2 4))))] (some σ_846) s.heap H locs := hM
      refine W.widen (k := (k_140 + 4701)) (n := (j_140 + 19551)) (by omega) (by omega) ?_
      exact J_l140_855 q4 hA4 v5_846 v6_846 v7_846 v8_846 v9_846 v10_846 v12_846 v13_846 v14_846 (mI μ_846 2 (ix (v14_846 + 2)) v13_846) σ_846 hok _ _ ls hM (lv_sub hl [0, 1, 2, 3, 4, 5, 6, 7, 8, 9, 10, 11, 12, 13, 14] rfl)
    have J_l140_837 : ∀ (q4 : Nat) (hA4 : A q4) (v5_837 : Int32) (v6_837 : Int32) (v7_837 : Int32) (v8_837 : Int32) (v9_837 : Int32) (v10_837 : Int32) (v12_837 : Int32) (v13_837 : Int32) (v14_837 : Int32) (μ_837 : MS) (σ_837 : XS), w_L_law_l140_837 x K w5_140 w6_140 w7_140 μw_140 σw_140 (I9_40 n_140) (fun (v : Int32 × Int32 × Int32 × MS × XS) => (w_L_law_m960 x K v.1 v.2.1 v.2.2.2.1 v.2.2.2.2)) v5_837 v6_837 v7_837 v8_837 v9_837 v10_837 v12_837 v13_837 v14_837 μ_837 σ_837 → ∀ (H : Heap) (locs : List Loc) (ls : Array Slot), HL D a x e0 A [(q0, .inl (a 0, 16, .inl (μ_837.1 0))), (q1, .inl (a 0, 64, .inl (μ_837.1 1))), (q2, .inl (a 0, 64, .inl (μ_837.1 2))), (q4, .inl (a 1, 16, .inr (.inl (μ_837.2 4))))] (some σ_837) s.heap H locs → lv_has ls 17 [(0, .ref b), (1, .ref x), (2, .ref q0), (3, .ref q1), (4, .ref q2), (5, .int v5_837), (6, .int v6_837), (7, .int v7_837), (8, .int v8_837), (9, .int v9_837), (10, .int v10_837), (11, .ref q4), (12, .int v12_837), (13, .int v13_837), (14, .int v14_837)] → W p l e R s m args below meth c H locs (k_140 + 4701) (j_140 + 19551) Q (F0 m 837 ls []) := by
      intro q4 hA4 v5_837 v6_837 v7_837 v8_837 v9_837 v10_837 v12_837 v13_837 v14_837 μ_837 σ_837 hok H locs ls hM hl
      refine lv_aload hx hb dL_law_837 (lv_at hl 4 rfl) ?_
      refine lv_iload hx hb dL_law_839 (lv_at hl 14 rfl) ?_
      refine lv_iconst (v := 1) hx hb dL_law_841 (by decide) ?_
      refine lv_iadd hx hb dL_law_842 ?_
      refine lv_iload hx hb dL_law_843 (lv_at hl 12 rfl) ?_
      have ok_83 := And.left hok
      have hok := And.right hok
      refine ls_I C hM 2 rfl hA2 ok_83 dL_law_845 (fun H locs hM => ?_)
      have hM : HL D a x e0 A [(q0, .inl (a 0, 16, .inl ((mI μ_837 2 (ix (v14_837 + 1)) v12_837).1 0))), (q1, .inl (a 0, 64, .inl ((mI μ_837 2 (ix (v14_837 + 1)) v12_837).1 1))), (q2, .inl (a 0, 64, .inl ((mI μ_837 2 (ix (v14_837 + 1)) v12_837).1 2))), (q4, .inl (a 1, 16, .inr (.inl ((mI μ_837 2 (ix (v14_837 + 1)) v12_837).2 4))))] (some σ_837) s.heap H locs := hM
      refine W.widen (k := (k_140 + 4701)) (n := (j_140 + 19551)) (by omega) (by omega) ?_
      exact J_l140_846 q4 hA4 v5_837 v6_837 v7_837 v8_837 v9_837 v10_837 v12_837 v13_837 v14_837 (mI μ_837 2 (ix (v14_837 + 1)) v12_837) σ_837 hok _ _ ls hM (lv_sub hl [0, 1, 2, 3, 4, 5, 6, 7, 8, 9, 10, 11, 12, 13, 14] rfl)
    have J_l140_815 : ∀ (q4 : Nat) (hA4 : A q4) (v5_815 : Int32) (v6_815 : Int32) (v7_815 : Int32) (v8_815 : Int32) (v9_815 : Int32) (v10_815 : Int32) (v12_815 : Int32) (t0_815 : Int64) (μ_815 : MS) (σ_815 : XS), w_L_law_l140_815 x K w5_140 w6_140 w7_140 μw_140 σw_140 (I9_40 n_140) (fun (v : Int32 × Int32 × Int32 × MS × XS) => (w_L_law_m960 x K v.1 v.2.1 v.2.2.2.1 v.2.2.2.2)) v5_815 v6_815 v7_815 v8_815 v9_815 v10_815 v12_815 t0_815 μ_815 σ_815 → ∀ (H : Heap) (locs : List Loc) (ls : Array Slot), HL D a x e0 A [(q0, .inl (a 0, 16, .inl (μ_815.1 0))), (q1, .inl (a 0, 64, .inl (μ_815.1 1))), (q2, .inl (a 0, 64, .inl (μ_815.1 2))), (q4, .inl (a 1, 16, .inr (.inl (μ_815.2 4))))] (some σ_815) s.heap H locs → lv_has ls 17 [(0, .ref b), (1, .ref x), (2, .ref q0), (3, .ref q1), (4, .ref q2), (5, .int v5_815), (6, .int v6_815), (7, .int v7_815), (8, .int v8_815), (9, .int v9_815), (10, .int v10_815), (11, .ref q4), (12, .int v12_815)] → W p l e R s m args below meth c H locs (k_140 + 4701) (j_140 + 19551) Q (F0 m 815 ls [.long t0_815]) := by
      intro q4 hA4 v5_815 v6_815 v7_815 v8_815 v9_815 v10_815 v12_815 t0_815 μ_815 σ_815 hok H locs ls hM hl
      refine lv_l2i (v := (t0_815.toInt32)) hx hb dL_law_815 rfl ?_
      refine lv_istore (lv' := [(13, .int (t0_815.toInt32)), (0, .ref b), (1, .ref x), (2, .ref q0), (3, .ref q1), (4, .ref q2), (5, .int v5_815), (6, .int v6_815), (7, .int v7_815), (8, .int v8_815), (9, .int v9_815), (10, .int v10_815), (11, .ref q4), (12, .int v12_815)]) hx hb dL_law_816 hl (by decide) rfl (fun ls hl => ?_)
      refine lv_bipush (v := 11) hx hb dL_law_818 (by decide) ?_
      refine lv_iconst (v := 4) hx hb dL_law_820 (by decide) ?_
      refine lv_aload hx hb dL_law_821 (lv_at hl 5 rfl) ?_
      refine lv_bipush (v := 10) hx hb dL_law_823 (by decide) ?_
      refine la_I C hM 2 rfl (lit_in (by decide) (by decide)) dL_law_825 ?_
      refine lv_imul hx hb dL_law_826 ?_
      refine lv_iadd hx hb dL_law_827 ?_
      refine lv_istore (lv' := [(14, .int (11 + (4 * (mi μ_815 2 (ix 10))))), (13, .int (t0_815.toInt32)), (0, .ref b), (1, .ref x), (2, .ref q0), (3, .ref q1), (4, .ref q2), (5, .int v5_815), (6, .int v6_815), (7, .int v7_815), (8, .int v8_815), (9, .int v9_815), (10, .int v10_815), (11, .ref q4), (12, .int v12_815)]) hx hb dL_law_828 hl (by decide) rfl (fun ls hl => ?_)
      refine lv_aload hx hb dL_law_830 (lv_at hl 6 rfl) ?_
      refine lv_iload hx hb dL_law_832 (lv_at hl 0 rfl) ?_
      refine lv_iload hx hb dL_law_834 (lv_at hl 12 rfl) ?_
      have ok_82 := And.left hok
      have hok := And.right hok
      refine ls_I C hM 2 rfl hA2 ok_82 dL_law_836 (fun H locs hM => ?_)
      have hM : HL D a x e0 A [(q0, .inl (a 0, 16, .inl ((mI μ_815 2 (ix (11 + (4 * (mi μ_815 2 (ix 10))))) v10_815).1 0))), (q1, .inl (a 0, 64, .inl ((mI μ_815 2 (ix (11 + (4 * (mi μ_815 2 (ix 10))))) v10_815).1 1))), (q2, .inl (a 0, 64, .inl ((mI μ_815 2 (ix (11 + (4 * (mi μ_815 2 (ix 10))))) v10_815).1 2))), (q4, .inl (a 1, 16, .inr (.inl ((mI μ_815 2 (ix (11 + (4 * (mi μ_815 2 (ix 10))))) v10_815).2 4))))] (some σ_815) s.heap H locs := hM
      refine W.widen (k := (k_140 + 4701)) (n := (j_140 + 19551)) (by omega) (by omega) ?_
      exact J_l140_837 q4 hA4 v5_815 v6_815 v7_815 v8_815 v9_815 v10_815 v12_815 (t0_815.toInt32) (11 + (4 * (mi μ_815 2 (ix 10)))) (mI μ_815 2 (ix (11 + (4 * (mi μ_815 2 (ix 10))))) v10_815) σ_815 hok _ _ ls hM (lv_sub hl [2, 3, 4, 5, 6, 7, 8, 9, 10, 11, 12, 13, 14, 1, 0] rfl)
    have J_l140_774 : ∀ (q4 : Nat) (hA4 : A q4) (v5_774 : Int32) (v6_774 : Int32) (v7_774 : Int32) (v8_774 : Int32) (v9_774 : Int32) (v10_774 : Int32) (t0_774 : Int64) (μ_774 : MS) (σ_774 : XS), w_L_law_l140_774 x K w5_140 w6_140 w7_140 μw_140 σw_140 (I9_40 n_140) (fun (v : Int32 × Int32 × Int32 × MS × XS) => (w_L_law_m960 x K v.1 v.2.1 v.2.2.2.1 v.2.2.2.2)) v5_774 v6_774 v7_774 v8_774 v9_774 v10_774 t0_774 μ_774 σ_774 → ∀ (H : Heap) (locs : List Loc) (ls : Array Slot), HL D a x e0 A [(q0, .inl (a 0, 16, .inl (μ_774.1 0))), (q1, .inl (a 0, 64, .inl (μ_774.1 1))), (q2, .inl (a 0, 64, .inl (μ_774.1 2))), (q4, .inl (a 1, 16, .inr (.inl (μ_774.2 4))))] (some σ_774) s.heap H locs → lv_has ls 17 [(0, .ref b), (1, .ref x), (2, .ref q0), (3, .ref q1), (4, .ref q2), (5, .int v5_774), (6, .int v6_774), (7, .int v7_774), (8, .int v8_774), (9, .int v9_774), (10, .int v10_774), (11, .ref q4)] → W p l e R s m args below meth c H locs (k_140 + 4701) (j_140 + 19551) Q (F0 m 774 ls [.long t0_774]) := by
      intro q4 hA4 v5_774 v6_774 v7_774 v8_774 v9_774 v10_774 t0_774 μ_774 σ_774 hok H locs ls hM hl
      refine lv_l2i (v := (t0_774.toInt32)) hx hb dL_law_774 rfl ?_
      refine lv_istore (lv' := [(12, .int (t0_774.toInt32)), (0, .ref b), (1, .ref x), (2, .ref q0), (3, .ref q1), (4, .ref q2), (5, .int v5_774), (6, .int v6_774), (7, .int v7_774), (8, .int v8_774), (9, .int v9_774), (10, .int v10_774), (11, .ref q4)]) hx hb dL_law_775 hl (by decide) rfl (fun ls hl => ?_)
      refine lv_aload hx hb dL_law_777 (lv_at hl 12 rfl) ?_
      refine lv_iconst (v := 4) hx hb dL_law_779 (by decide) ?_
      refine la_J C hM 3 rfl (lit_in (by decide) (by decide)) dL_law_780 ?_
      refine lv_lconst (v := 0) hx hb dL_law_781 (by decide) ?_
      refine W.lcmp hx hb dL_law_782 ?_
      refine lv_if_ge (tgt := 790) hx hb dL_law_783 (by decide) (fun c_80 => ?_) (fun c_80 => ?_)
      · have hok := oif_pos hok c_80
        refine lv_aload hx hb dL_law_790 (lv_at hl 12 rfl) ?_
        refine lv_iconst (v := 4) hx hb dL_law_792 (by decide) ?_
        refine la_J C hM 3 rfl (lit_in (by decide) (by decide)) dL_law_793 ?_
        refine lv_ldc2 (v := 9900) hx hb hown (hts _ q_902) dL_law_794 ?_
        refine W.lcmp hx hb dL_law_797 ?_
        refine lv_if_le (tgt := 807) hx hb dL_law_798 (by decide) (fun c_81 => ?_) (fun c_81 => ?_)
        · have hok := oif_pos hok c_81
          refine lv_aload hx hb dL_law_807 (lv_at hl 12 rfl) ?_
          refine lv_iconst (v := 4) hx hb dL_law_809 (by decide) ?_
          refine la_J C hM 3 rfl (lit_in (by decide) (by decide)) dL_law_810 ?_
          refine lv_ldc2 (v := 100) hx hb hown (hts _ q_846) dL_law_811 ?_
          refine lv_ldiv hx hb dL_law_814 (by decide) ?_
          refine W.widen (k := (k_140 + 4701)) (n := (j_140 + 19551)) (by omega) (by omega) ?_
          exact J_l140_815 q4 hA4 v5_774 v6_774 v7_774 v8_774 v9_774 v10_774 (t0_774.toInt32) ((ml μ_774 4 (ix 4)) / 100) μ_774 σ_774 hok _ _ ls hM (lv_sub hl [1, 2, 3, 4, 5, 6, 7, 8, 9, 10, 11, 12, 0] rfl)
        · have hok := oif_neg hok c_81
          refine lv_ldc2 (v := 99) hx hb hown (hts _ q_903) dL_law_801 ?_
          refine lv_goto (tgt := 815) hx hb dL_law_804 (by decide) ?_
          refine W.widen (k := (k_140 + 4701)) (n := (j_140 + 19551)) (by omega) (by omega) ?_
          exact J_l140_815 q4 hA4 v5_774 v6_774 v7_774 v8_774 v9_774 v10_774 (t0_774.toInt32) 99 μ_774 σ_774 hok _ _ ls hM (lv_sub hl [1, 2, 3, 4, 5, 6, 7, 8, 9, 10, 11, 12, 0] rfl)
      · have hok := oif_neg hok c_80
        refine lv_lconst (v := 0) hx hb dL_law_786 (by decide) ?_
        refine lv_goto (tgt := 815) hx hb dL_law_787 (by decide) ?_
        refine W.widen (k := (k_140 + 4701)) (n := (j_140 + 19551)) (by omega) (by omega) ?_
        exact J_l140_815 q4 hA4 v5_774 v6_774 v7_774 v8_774 v9_774 v10_774 (t0_774.toInt32) 0 μ_774 σ_774 hok _ _ ls hM (lv_sub hl [1, 2, 3, 4, 5, 6, 7, 8, 9, 10, 11, 12, 0] rfl)
    have J_l140_686 : ∀  (v5_686 : Int32) (v6_686 : Int32) (v7_686 : Int32) (v8_686 : Int32) (v9_686 : Int32) (μ_686 : MS) (σ_686 : XS), w_L_law_l140_686 x K w5_140 w6_140 w7_140 μw_140 σw_140 (I9_40 n_140) (fun (v : Int32 × Int32 × Int32 × MS × XS) => (w_L_law_m960 x K v.1 v.2.1 v.2.2.2.1 v.2.2.2.2)) v5_686 v6_686 v7_686 v8_686 v9_686 μ_686 σ_686 → ∀ (H : Heap) (locs : List Loc) (ls : Array Slot), HL D a x e0 A [(q0, .inl (a 0, 16, .inl (μ_686.1 0))), (q1, .inl (a 0, 64, .inl (μ_686.1 1))), (q2, .inl (a 0, 64, .inl (μ_686.1 2)))] (some σ_686) s.heap H locs → lv_has ls 17 [(0, .ref b), (1, .ref x), (2, .ref q0), (3, .ref q1), (4, .ref q2), (5, .int v5_686), (6, .int v6_686), (7, .int v7_686), (8, .int v8_686), (9, .int v9_686)] → W p l e R s m args below meth c H locs (k_140 + 18) (j_140 + 699) Q (F0 m 686 ls []) := by
      intro v5_686 v6_686 v7_686 v8_686 v9_686 μ_686 σ_686 hok H locs ls hM hl
      refine lv_aload_n hx hb dL_law_686 rfl (lv_at hl 2 rfl) ?_
      refine lv_aload_n hx hb dL_law_687 rfl (lv_at hl 3 rfl) ?_
      refine lv_iload hx hb dL_law_688 (lv_at hl 5 rfl) ?_
      refine lv_iload hx hb dL_law_690 (lv_at hl 9 rfl) ?_
      refine lv_iconst (v := 3) hx hb dL_law_692 (by decide) ?_
      refine lv_ishr hx hb dL_law_693 ?_
      refine lv_iload hx hb dL_law_694 (lv_at hl 5 rfl) ?_
      have ok_57 := And.left hok
      have hok := And.right hok
      refine lc_S (av := [.int (v9_686 >>> ((3 : Int32) &&& 31)), .int v5_686]) C (k_L_low l D a (v9_686 >>> ((3 : Int32) &&& 31)) v5_686 ok_57) cw_L_70 (okR_of hRf hRl (Nat.le_of_ble_eq_true rfl) (Nat.le_of_ble_eq_true rfl)) rfl rfl hl.1 (Nat.le_of_ble_eq_true rfl) (by omega) (by omega) dL_law_696 ?_
      obtain ⟨S9_58, w9_59, g9_60⟩ := hok
      refine lc_0 (av := [.ref q0, .ref q1, .int v5_686, .int (f_L_low (v9_686 >>> ((3 : Int32) &&& 31)) v5_686)]) C hM hAf [0, 1] rfl rfl (fun A9 => k_L_group l D a A9 q0 q1 μ_686 v5_686 (f_L_low (v9_686 >>> ((3 : Int32) &&& 31)) v5_686) S9_58 w9_59) cw_L_26 (okR_of hRf hRl (Nat.le_of_ble_eq_true rfl) (Nat.le_of_ble_eq_true rfl)) rfl rfl hl.1 (Nat.le_of_ble_eq_true rfl) (by omega) (by omega) dL_law_699 (fun H locs v9 hM hP9 => ?_)
      obtain ⟨v9_62, hS_61, rfl⟩ := hP9
      have hM : HL D a x e0 A [(q0, .inl (a 0, 16, .inl (μ_686.1 0))), (q1, .inl (a 0, 64, .inl (μ_686.1 1))), (q2, .inl (a 0, 64, .inl (μ_686.1 2)))] (some σ_686) s.heap H locs := hM
      have hok := g9_60 v9_62 hS_61
      refine lv_istore (lv' := [(10, .int v9_62), (0, .ref b), (1, .ref x), (2, .ref q0), (3, .ref q1), (4, .ref q2), (5, .int v5_686), (6, .int v6_686), (7, .int v7_686), (8, .int v8_686), (9, .int v9_686)]) hx hb dL_law_702 hl (by decide) rfl (fun ls hl => ?_)
      refine lv_iload hx hb dL_law_704 (lv_at hl 0 rfl) ?_
      refine lv_if_lt (tgt := 928) hx hb dL_law_706 (by decide) (fun c_63 => ?_) (fun c_63 => ?_)
      · have hok := oif_pos hok c_63
        refine W.widen (k := (k_140 + 4707)) (n := (j_140 + 19880)) (by omega) (by omega) ?_
        exact J_l140_928 v5_686 v6_686 v7_686 v9_686 μ_686 σ_686 hok _ _ ls hM (lv_sub hl [1, 2, 3, 4, 5, 6, 7, 8, 10] rfl)
      · have hok := oif_neg hok c_63
        refine lv_aload hx hb dL_law_709 (lv_at hl 5 rfl) ?_
        refine lv_bipush (v := 10) hx hb dL_law_711 (by decide) ?_
        refine la_I C hM 2 rfl (lit_in (by decide) (by decide)) dL_law_713 ?_
        refine lv_bipush (v := 6) hx hb dL_law_714 (by decide) ?_
        refine lv_icmp_ge (tgt := 928) hx hb dL_law_716 (by decide) (fun c_72 => ?_) (fun c_72 => ?_)
        · have hok := oif_pos hok c_72
          refine W.widen (k := (k_140 + 4707)) (n := (j_140 + 19880)) (by omega) (by omega) ?_
          exact J_l140_928 v5_686 v6_686 v7_686 v9_686 μ_686 σ_686 hok _ _ ls hM (lv_sub hl [1, 2, 3, 4, 5, 6, 7, 8, 10] rfl)
        · have hok := oif_neg hok c_72
          refine lv_bipush (v := nI 16) hx hb dL_law_719 (by decide) ?_
          refine ln_J C hM hAf (N := 16) (by omega) (by omega) (by omega) dL_law_721 (fun q4 H locs hA4 hM => ?_)
          have hM : HL D a x e0 A [(q0, .inl (a 0, 16, .inl ((mZJ μ_686 4).1 0))), (q1, .inl (a 0, 64, .inl ((mZJ μ_686 4).1 1))), (q2, .inl (a 0, 64, .inl ((mZJ μ_686 4).1 2))), (q4, .inl (a 1, 16, .inr (.inl ((mZJ μ_686 4).2 4))))] (some σ_686) s.heap H locs := hM
          refine lv_astore (lv' := [(11, .ref q4), (10, .int v9_62), (0, .ref b), (1, .ref x), (2, .ref q0), (3, .ref q1), (4, .ref q2), (5, .int v5_686), (6, .int v6_686), (7, .int v7_686), (8, .int v8_686), (9, .int v9_686)]) hx hb dL_law_723 hl (by decide) rfl (fun ls hl => ?_)
          refine lv_aload_n hx hb dL_law_725 rfl (lv_at hl 4 rfl) ?_
          refine lv_aload_n hx hb dL_law_726 rfl (lv_at hl 5 rfl) ?_
          refine lv_iload hx hb dL_law_727 (lv_at hl 7 rfl) ?_
          refine lv_iload hx hb dL_law_729 (lv_at hl 1 rfl) ?_
          refine lv_aload hx hb dL_law_731 (lv_at hl 0 rfl) ?_
          obtain ⟨S9_73, w9_74, g9_75⟩ := hok
          refine lc_1 (av := [.ref q0, .ref q1, .int v5_686, .int v9_62, .ref q4]) C hM hAf [0, 1, 3] rfl rfl 3 rfl hA4 (fun A9 hA9 => k_L_all l D a A9 q0 q1 q4 (mZJ μ_686 4) v5_686 v9_62 S9_73 hA9 w9_74) cw_L_58 (okR_of hRf hRl (Nat.le_of_ble_eq_true rfl) (Nat.le_of_ble_eq_true rfl)) rfl rfl hl.1 (Nat.le_of_ble_eq_true rfl) (by omega) (by omega) dL_law_733 (fun H locs v9 hT9 hP9 => ?_)
          obtain ⟨gq_77, hS_76, rfl, hT8⟩ := hP9
          have hM : HL D a x e0 A [(q0, .inl (a 0, 16, .inl ((mQ (mZJ μ_686 4) 4 gq_77).1 0))), (q1, .inl (a 0, 64, .inl ((mQ (mZJ μ_686 4) 4 gq_77).1 1))), (q2, .inl (a 0, 64, .inl ((mQ (mZJ μ_686 4) 4 gq_77).1 2))), (q4, .inl (a 1, 16, .inr (.inl ((mQ (mZJ μ_686 4) 4 gq_77).2 4))))] (some σ_686) s.heap H locs := hT9 _ hT8
          have hok := g9_75 gq_77 hS_76
          refine lv_aload hx hb dL_law_736 (lv_at hl 0 rfl) ?_
          refine lv_iconst (v := 3) hx hb dL_law_738 (by decide) ?_
          refine la_J C hM 3 rfl (lit_in (by decide) (by decide)) dL_law_739 ?_
          refine lv_lconst (v := 0) hx hb dL_law_740 (by decide) ?_
          refine W.lcmp hx hb dL_law_741 ?_
          refine lv_if_ge (tgt := 749) hx hb dL_law_742 (by decide) (fun c_78 => ?_) (fun c_78 => ?_)
          · have hok := oif_pos hok c_78
            refine lv_aload hx hb dL_law_749 (lv_at hl 0 rfl) ?_
            refine lv_iconst (v := 3) hx hb dL_law_751 (by decide) ?_
            refine la_J C hM 3 rfl (lit_in (by decide) (by decide)) dL_law_752 ?_
            refine lv_ldc2 (v := 9900) hx hb hown (hts _ q_902) dL_law_753 ?_
            refine W.lcmp hx hb dL_law_756 ?_
            refine lv_if_le (tgt := 766) hx hb dL_law_757 (by decide) (fun c_79 => ?_) (fun c_79 => ?_)
            · have hok := oif_pos hok c_79
              refine lv_aload hx hb dL_law_766 (lv_at hl 0 rfl) ?_
              refine lv_iconst (v := 3) hx hb dL_law_768 (by decide) ?_
              refine la_J C hM 3 rfl (lit_in (by decide) (by decide)) dL_law_769 ?_
              refine lv_ldc2 (v := 100) hx hb hown (hts _ q_846) dL_law_770 ?_
              refine lv_ldiv hx hb dL_law_773 (by decide) ?_
              refine W.widen (k := (k_140 + 4701)) (n := (j_140 + 19551)) (by omega) (by omega) ?_
              exact J_l140_774 q4 hA4 v5_686 v6_686 v7_686 v8_686 v9_686 v9_62 ((ml (mQ (mZJ μ_686 4) 4 gq_77) 4 (ix 3)) / 100) (mQ (mZJ μ_686 4) 4 gq_77) σ_686 hok _ _ ls hM (lv_sub hl [2, 3, 4, 5, 6, 7, 8, 9, 10, 11, 1, 0] rfl)
            · have hok := oif_neg hok c_79
              refine lv_ldc2 (v := 99) hx hb hown (hts _ q_903) dL_law_760 ?_
              refine lv_goto (tgt := 774) hx hb dL_law_763 (by decide) ?_
              refine W.widen (k := (k_140 + 4701)) (n := (j_140 + 19551)) (by omega) (by omega) ?_
              exact J_l140_774 q4 hA4 v5_686 v6_686 v7_686 v8_686 v9_686 v9_62 99 (mQ (mZJ μ_686 4) 4 gq_77) σ_686 hok _ _ ls hM (lv_sub hl [2, 3, 4, 5, 6, 7, 8, 9, 10, 11, 1, 0] rfl)
          · have hok := oif_neg hok c_78
            refine lv_lconst (v := 0) hx hb dL_law_745 (by decide) ?_
            refine lv_goto (tgt := 774) hx hb dL_law_746 (by decide) ?_
            refine W.widen (k := (k_140 + 4701)) (n := (j_140 + 19551)) (by omega) (by omega) ?_
            exact J_l140_774 q4 hA4 v5_686 v6_686 v7_686 v8_686 v9_686 v9_62 0 (mQ (mZJ μ_686 4) 4 gq_77) σ_686 hok _ _ ls hM (lv_sub hl [2, 3, 4, 5, 6, 7, 8, 9, 10, 11, 1, 0] rfl)
    have J_l140_664 : ∀  (v5_664 : Int32) (v6_664 : Int32) (v7_664 : Int32) (v8_664 : Int32) (v9_664 : Int32) (v10_664 : Int32) (μ_664 : MS) (σ_664 : XS), w_L_law_l140_664 x K w5_140 w6_140 w7_140 μw_140 σw_140 (I9_40 n_140) (fun (v : Int32 × Int32 × Int32 × MS × XS) => (w_L_law_m960 x K v.1 v.2.1 v.2.2.2.1 v.2.2.2.2)) v5_664 v6_664 v7_664 v8_664 v9_664 v10_664 μ_664 σ_664 → ∀ (H : Heap) (locs : List Loc) (ls : Array Slot), HL D a x e0 A [(q0, .inl (a 0, 16, .inl (μ_664.1 0))), (q1, .inl (a 0, 64, .inl (μ_664.1 1))), (q2, .inl (a 0, 64, .inl (μ_664.1 2)))] (some σ_664) s.heap H locs → lv_has ls 17 [(0, .ref b), (1, .ref x), (2, .ref q0), (3, .ref q1), (4, .ref q2), (5, .int v5_664), (6, .int v6_664), (7, .int v7_664), (8, .int v8_664), (9, .int v9_664), (10, .int v10_664)] → W p l e R s m args below meth c H locs (k_140 + 13) (j_140 + 378) Q (F0 m 664 ls []) := by
      intro v5_664 v6_664 v7_664 v8_664 v9_664 v10_664 μ_664 σ_664 hok H locs ls hM hl
      refine lv_aload_n hx hb dL_law_664 rfl (lv_at hl 1 rfl) ?_
      refine lv_iload hx hb dL_law_665 (lv_at hl 10 rfl) ?_
      refine lv_aload hx hb dL_law_667 (lv_at hl 4 rfl) ?_
      refine lv_iconst (v := 2) hx hb dL_law_669 (by decide) ?_
      refine lv_iload hx hb dL_law_670 (lv_at hl 10 rfl) ?_
      refine lv_imul hx hb dL_law_672 ?_
      have ok_99 := And.left hok
      have hok := And.right hok
      refine la_I C hM 2 rfl ok_99 dL_law_673 ?_
      refine lv_aload hx hb dL_law_674 (lv_at hl 4 rfl) ?_
      refine lv_iconst (v := 2) hx hb dL_law_676 (by decide) ?_
      refine lv_iload hx hb dL_law_677 (lv_at hl 10 rfl) ?_
      refine lv_imul hx hb dL_law_679 ?_
      refine lv_iconst (v := 1) hx hb dL_law_680 (by decide) ?_
      refine lv_iadd hx hb dL_law_681 ?_
      have ok_100 := And.left hok
      have hok := And.right hok
      refine la_I C hM 2 rfl ok_100 dL_law_682 ?_
      have ok_101 := And.left hok
      have hok := And.right hok
      refine lx_m (av := [.int v10_664, .int (mi μ_664 2 (ix (2 * v10_664))), .int (mi μ_664 2 (ix ((2 * v10_664) + 1)))]) C hM hE hok (fun B => k_X10_wind l D a x e0 B hfl σ_664 v10_664 (mi μ_664 2 (ix (2 * v10_664))) (mi μ_664 2 (ix ((2 * v10_664) + 1))) ok_101) cw_L_100 (okR_of hRf hRl (Nat.le_of_ble_eq_true rfl) (Nat.le_of_ble_eq_true rfl)) rfl rfl hl.1 (Nat.le_of_ble_eq_true rfl) (by omega) (by omega) dL_law_683 (fun _ σ9_102 H locs hok hM => ?_)
      have hM : HL D a x e0 A [(q0, .inl (a 0, 16, .inl (μ_664.1 0))), (q1, .inl (a 0, 64, .inl (μ_664.1 1))), (q2, .inl (a 0, 64, .inl (μ_664.1 2)))] (some σ9_102) s.heap H locs := hM
      refine W.widen (k := (k_140 + 18)) (n := (j_140 + 699)) (by omega) (by omega) ?_
      exact J_l140_686 v5_664 v6_664 v7_664 v8_664 v9_664 μ_664 σ9_102 hok _ _ ls hM (lv_sub hl [0, 1, 2, 3, 4, 5, 6, 7, 8, 9] rfl)
    have J_l140_642 : ∀  (v5_642 : Int32) (v6_642 : Int32) (v7_642 : Int32) (v8_642 : Int32) (v9_642 : Int32) (v10_642 : Int32) (μ_642 : MS) (σ_642 : XS), w_L_law_l140_642 x K w5_140 w6_140 w7_140 μw_140 σw_140 (I9_40 n_140) (fun (v : Int32 × Int32 × Int32 × MS × XS) => (w_L_law_m960 x K v.1 v.2.1 v.2.2.2.1 v.2.2.2.2)) v5_642 v6_642 v7_642 v8_642 v9_642 v10_642 μ_642 σ_642 → ∀ (H : Heap) (locs : List Loc) (ls : Array Slot), HL D a x e0 A [(q0, .inl (a 0, 16, .inl (μ_642.1 0))), (q1, .inl (a 0, 64, .inl (μ_642.1 1))), (q2, .inl (a 0, 64, .inl (μ_642.1 2)))] (some σ_642) s.heap H locs → lv_has ls 17 [(0, .ref b), (1, .ref x), (2, .ref q0), (3, .ref q1), (4, .ref q2), (5, .int v5_642), (6, .int v6_642), (7, .int v7_642), (8, .int v8_642), (9, .int v9_642), (10, .int v10_642)] → W p l e R s m args below meth c H locs (k_140 + 13) (j_140 + 378) Q (F0 m 642 ls []) := by
      intro v5_642 v6_642 v7_642 v8_642 v9_642 v10_642 μ_642 σ_642 hok H locs ls hM hl
      refine lv_aload hx hb dL_law_642 (lv_at hl 4 rfl) ?_
      refine lv_iconst (v := 2) hx hb dL_law_644 (by decide) ?_
      refine lv_iload hx hb dL_law_645 (lv_at hl 10 rfl) ?_
      refine lv_imul hx hb dL_law_647 ?_
      refine lv_iconst (v := 1) hx hb dL_law_648 (by decide) ?_
      refine lv_iadd hx hb dL_law_649 ?_
      refine lv_iload hx hb dL_law_650 (lv_at hl 9 rfl) ?_
      refine lv_bipush (v := 10) hx hb dL_law_652 (by decide) ?_
      refine lv_ishr hx hb dL_law_654 ?_
      refine lv_bipush (v := 41) hx hb dL_law_655 (by decide) ?_
      refine lc_S (av := [.int (v9_642 >>> ((10 : Int32) &&& 31)), .int 41]) C (k_L_low l D a (v9_642 >>> ((10 : Int32) &&& 31)) 41 (by decide)) cw_L_70 (okR_of hRf hRl (Nat.le_of_ble_eq_true rfl) (Nat.le_of_ble_eq_true rfl)) rfl rfl hl.1 (Nat.le_of_ble_eq_true rfl) (by omega) (by omega) dL_law_657 ?_
      refine lv_bipush (v := 20) hx hb dL_law_660 (by decide) ?_
      refine lv_isub hx hb dL_law_662 ?_
      have ok_98 := And.left hok
      have hok := And.right hok
      refine ls_I C hM 2 rfl hA2 ok_98 dL_law_663 (fun H locs hM => ?_)
      have hM : HL D a x e0 A [(q0, .inl (a 0, 16, .inl ((mI μ_642 2 (ix ((2 * v10_642) + 1)) ((f_L_low (v9_642 >>> ((10 : Int32) &&& 31)) 41) - 20)).1 0))), (q1, .inl (a 0, 64, .inl ((mI μ_642 2 (ix ((2 * v10_642) + 1)) ((f_L_low (v9_642 >>> ((10 : Int32) &&& 31)) 41) - 20)).1 1))), (q2, .inl (a 0, 64, .inl ((mI μ_642 2 (ix ((2 * v10_642) + 1)) ((f_L_low (v9_642 >>> ((10 : Int32) &&& 31)) 41) - 20)).1 2)))] (some σ_642) s.heap H locs := hM
      refine W.widen (k := (k_140 + 13)) (n := (j_140 + 378)) (by omega) (by omega) ?_
      exact J_l140_664 v5_642 v6_642 v7_642 v8_642 v9_642 v10_642 (mI μ_642 2 (ix ((2 * v10_642) + 1)) ((f_L_low (v9_642 >>> ((10 : Int32) &&& 31)) 41) - 20)) σ_642 hok _ _ ls hM (lv_sub hl [0, 1, 2, 3, 4, 5, 6, 7, 8, 9, 10] rfl)
    have J_l140_604 : ∀  (v5_604 : Int32) (v6_604 : Int32) (v7_604 : Int32) (v8_604 : Int32) (v9_604 : Int32) (μ_604 : MS) (σ_604 : XS), w_L_law_l140_604 x K w5_140 w6_140 w7_140 μw_140 σw_140 (I9_40 n_140) (fun (v : Int32 × Int32 × Int32 × MS × XS) => (w_L_law_m960 x K v.1 v.2.1 v.2.2.2.1 v.2.2.2.2)) v5_604 v6_604 v7_604 v8_604 v9_604 μ_604 σ_604 → ∀ (H : Heap) (locs : List Loc) (ls : Array Slot), HL D a x e0 A [(q0, .inl (a 0, 16, .inl (μ_604.1 0))), (q1, .inl (a 0, 64, .inl (μ_604.1 1))), (q2, .inl (a 0, 64, .inl (μ_604.1 2)))] (some σ_604) s.heap H locs → lv_has ls 17 [(0, .ref b), (1, .ref x), (2, .ref q0), (3, .ref q1), (4, .ref q2), (5, .int v5_604), (6, .int v6_604), (7, .int v7_604), (8, .int v8_604), (9, .int v9_604)] → W p l e R s m args below meth c H locs (k_140 + 13) (j_140 + 378) Q (F0 m 604 ls []) := by
      intro v5_604 v6_604 v7_604 v8_604 v9_604 μ_604 σ_604 hok H locs ls hM hl
      refine lv_iload hx hb dL_law_604 (lv_at hl 9 rfl) ?_
      refine lv_iconst (v := 3) hx hb dL_law_606 (by decide) ?_
      refine lc_S (av := [.int v9_604, .int 3]) C (k_L_low l D a v9_604 3 (by decide)) cw_L_70 (okR_of hRf hRl (Nat.le_of_ble_eq_true rfl) (Nat.le_of_ble_eq_true rfl)) rfl rfl hl.1 (Nat.le_of_ble_eq_true rfl) (by omega) (by omega) dL_law_607 ?_
      refine lv_if_ne (tgt := 686) hx hb dL_law_610 (by decide) (fun c_56 => ?_) (fun c_56 => ?_)
      · have hok := oif_neg hok c_56
        refine W.widen (k := (k_140 + 18)) (n := (j_140 + 699)) (by omega) (by omega) ?_
        exact J_l140_686 v5_604 v6_604 v7_604 v8_604 v9_604 μ_604 σ_604 hok _ _ ls hM (lv_sub hl [0, 1, 2, 3, 4, 5, 6, 7, 8, 9] rfl)
      · have hok := oif_pos hok c_56
        refine lv_iload hx hb dL_law_613 (lv_at hl 9 rfl) ?_
        refine lv_iconst (v := 2) hx hb dL_law_615 (by decide) ?_
        refine lv_ishr hx hb dL_law_616 ?_
        refine lv_iconst (v := 2) hx hb dL_law_617 (by decide) ?_
        refine lc_S (av := [.int (v9_604 >>> ((2 : Int32) &&& 31)), .int 2]) C (k_L_low l D a (v9_604 >>> ((2 : Int32) &&& 31)) 2 (by decide)) cw_L_70 (okR_of hRf hRl (Nat.le_of_ble_eq_true rfl) (Nat.le_of_ble_eq_true rfl)) rfl rfl hl.1 (Nat.le_of_ble_eq_true rfl) (by omega) (by omega) dL_law_618 ?_
        refine lv_istore (lv' := [(10, .int (f_L_low (v9_604 >>> ((2 : Int32) &&& 31)) 2)), (0, .ref b), (1, .ref x), (2, .ref q0), (3, .ref q1), (4, .ref q2), (5, .int v5_604), (6, .int v6_604), (7, .int v7_604), (8, .int v8_604), (9, .int v9_604)]) hx hb dL_law_621 hl (by decide) rfl (fun ls hl => ?_)
        refine lv_aload hx hb dL_law_623 (lv_at hl 5 rfl) ?_
        refine lv_iconst (v := 2) hx hb dL_law_625 (by decide) ?_
        refine lv_iload hx hb dL_law_626 (lv_at hl 0 rfl) ?_
        refine lv_imul hx hb dL_law_628 ?_
        refine lv_iload hx hb dL_law_629 (lv_at hl 10 rfl) ?_
        refine lv_iconst (v := 4) hx hb dL_law_631 (by decide) ?_
        refine lv_ishr hx hb dL_law_632 ?_
        refine lv_bipush (v := 41) hx hb dL_law_633 (by decide) ?_
        refine lc_S (av := [.int (v9_604 >>> ((4 : Int32) &&& 31)), .int 41]) C (k_L_low l D a (v9_604 >>> ((4 : Int32) &&& 31)) 41 (by decide)) cw_L_70 (okR_of hRf hRl (Nat.le_of_ble_eq_true rfl) (Nat.le_of_ble_eq_true rfl)) rfl rfl hl.1 (Nat.le_of_ble_eq_true rfl) (by omega) (by omega) dL_law_635 ?_
        refine lv_bipush (v := 20) hx hb dL_law_638 (by decide) ?_
        refine lv_isub hx hb dL_law_640 ?_
        have ok_97 := And.left hok
        have hok := And.right hok
        refine ls_I C hM 2 rfl hA2 ok_97 dL_law_641 (fun H locs hM => ?_)
        have hM : HL D a x e0 A [(q0, .inl (a 0, 16, .inl ((mI μ_604 2 (ix (2 * (f_L_low (v9_604 >>> ((2 : Int32) &&& 31)) 2))) ((f_L_low (v9_604 >>> ((4 : Int32) &&& 31)) 41) - 20)).1 0))), (q1, .inl (a 0, 64, .inl ((mI μ_604 2 (ix (2 * (f_L_low (v9_604 >>> ((2 : Int32) &&& 31)) 2))) ((f_L_low (v9_604 >>> ((4 : Int32) &&& 31)) 41) - 20)).1 1))), (q2, .inl (a 0, 64, .inl ((mI μ_604 2 (ix (2 * (f_L_low (v9_604 >>> ((2 : Int32) &&& 31)) 2))) ((f_L_low (v9_604 >>> ((4 : Int32) &&& 31)) 41) - 20)).1 2)))] (some σ_604) s.heap H locs := hM
        refine W.widen (k := (k_140 + 13)) (n := (j_140 + 378)) (by omega) (by omega) ?_
        exact J_l140_642 v5_604 v6_604 v7_604 v8_604 v9_604 (f_L_low (v9_604 >>> ((2 : Int32) &&& 31)) 2) (mI μ_604 2 (ix (2 * (f_L_low (v9_604 >>> ((2 : Int32) &&& 31)) 2))) ((f_L_low (v9_604 >>> ((4 : Int32) &&& 31)) 41) - 20)) σ_604 hok _ _ ls hM (lv_sub hl [1, 2, 3, 4, 5, 6, 7, 8, 9, 10, 0] rfl)
    have J_l140_573 : ∀  (v5_573 : Int32) (v6_573 : Int32) (v7_573 : Int32) (v8_573 : Int32) (v9_573 : Int32) (v10_573 : Int32) (v11_573 : Int32) (μ_573 : MS) (σ_573 : XS), w_L_law_l140_573 x K w5_140 w6_140 w7_140 μw_140 σw_140 (I9_40 n_140) (fun (v : Int32 × Int32 × Int32 × MS × XS) => (w_L_law_m960 x K v.1 v.2.1 v.2.2.2.1 v.2.2.2.2)) v5_573 v6_573 v7_573 v8_573 v9_573 v10_573 v11_573 μ_573 σ_573 → ∀ (H : Heap) (locs : List Loc) (ls : Array Slot), HL D a x e0 A [(q0, .inl (a 0, 16, .inl (μ_573.1 0))), (q1, .inl (a 0, 64, .inl (μ_573.1 1))), (q2, .inl (a 0, 64, .inl (μ_573.1 2)))] (some σ_573) s.heap H locs → lv_has ls 17 [(0, .ref b), (1, .ref x), (2, .ref q0), (3, .ref q1), (4, .ref q2), (5, .int v5_573), (6, .int v6_573), (7, .int v7_573), (8, .int v8_573), (9, .int v9_573), (10, .int v10_573), (11, .int v11_573)] → W p l e R s m args below meth c H locs (k_140 + 0) (j_140 + 0) Q (F0 m 573 ls []) := by
      intro v5_573 v6_573 v7_573 v8_573 v9_573 v10_573 v11_573 μ_573 σ_573 hok H locs ls hM hl
      refine lv_aload_n hx hb dL_law_573 rfl (lv_at hl 1 rfl) ?_
      refine lv_iload hx hb dL_law_574 (lv_at hl 10 rfl) ?_
      refine lv_iload hx hb dL_law_576 (lv_at hl 11 rfl) ?_
      have ok_50 := And.left hok
      have hok := And.right hok
      refine lx_m (av := [.int v10_573, .int v11_573]) C hM hE hok (fun B => k_X10_clock l D a x e0 B hfl σ_573 v10_573 v11_573 ok_50) cw_L_97 (okR_of hRf hRl (Nat.le_of_ble_eq_true rfl) (Nat.le_of_ble_eq_true rfl)) rfl rfl hl.1 (Nat.le_of_ble_eq_true rfl) (by omega) (by omega) dL_law_578 (fun v9_51 σ9_52 H locs hok hM => ?_)
      have hM : HL D a x e0 A [(q0, .inl (a 0, 16, .inl (μ_573.1 0))), (q1, .inl (a 0, 64, .inl (μ_573.1 1))), (q2, .inl (a 0, 64, .inl (μ_573.1 2)))] (some σ9_52) s.heap H locs := hM
      refine lv_aload_n hx hb dL_law_581 rfl (lv_at hl 2 rfl) ?_
      refine lv_iconst (v := 3) hx hb dL_law_582 (by decide) ?_
      refine lv_iload hx hb dL_law_583 (lv_at hl 10 rfl) ?_
      refine lv_imul hx hb dL_law_585 ?_
      refine lv_iconst (v := 2) hx hb dL_law_586 (by decide) ?_
      refine lv_iadd hx hb dL_law_587 ?_
      have ok_53 := And.left hok
      have hok := And.right hok
      refine la_I C hM 0 rfl ok_53 dL_law_588 ?_
      refine lv_icmp_eq (tgt := 594) hx hb dL_law_589 (by decide) (fun c_54 => ?_) (fun c_54 => ?_)
      · have hok := oif_pos hok c_54
        refine lv_aload_n hx hb dL_law_594 rfl (lv_at hl 2 rfl) ?_
        refine lv_iconst (v := 3) hx hb dL_law_595 (by decide) ?_
        refine lv_iload hx hb dL_law_596 (lv_at hl 10 rfl) ?_
        refine lv_imul hx hb dL_law_598 ?_
        refine lv_iconst (v := 2) hx hb dL_law_599 (by decide) ?_
        refine lv_iadd hx hb dL_law_600 ?_
        refine lv_iload hx hb dL_law_601 (lv_at hl 11 rfl) ?_
        have ok_55 := And.left hok
        have hok := And.right hok
        refine ls_I C hM 0 rfl hA0 ok_55 dL_law_603 (fun H locs hM => ?_)
        have hM : HL D a x e0 A [(q0, .inl (a 0, 16, .inl ((mI μ_573 0 (ix ((3 * v10_573) + 2)) v11_573).1 0))), (q1, .inl (a 0, 64, .inl ((mI μ_573 0 (ix ((3 * v10_573) + 2)) v11_573).1 1))), (q2, .inl (a 0, 64, .inl ((mI μ_573 0 (ix ((3 * v10_573) + 2)) v11_573).1 2)))] (some σ9_52) s.heap H locs := hM
        refine W.widen (k := (k_140 + 13)) (n := (j_140 + 378)) (by omega) (by omega) ?_
        exact J_l140_604 v5_573 v6_573 v7_573 v8_573 v9_573 (mI μ_573 0 (ix ((3 * v10_573) + 2)) v11_573) σ9_52 hok _ _ ls hM (lv_sub hl [0, 1, 2, 3, 4, 5, 6, 7, 8, 9] rfl)
      · have hok := oif_neg hok c_54
        refine lv_iconst (v := 0) hx hb dL_law_592 (by decide) ?_
        refine W.widen (k := R.cells) (n := R.slots) (by omega) (by omega) ?_
        exact ret _ _ _ _ _ hM.2.2.1 dL_law_593 hok
    have J_l140_475 : ∀  (v5_475 : Int32) (v6_475 : Int32) (v7_475 : Int32) (v8_475 : Int32) (v9_475 : Int32) (v10_475 : Int32) (μ_475 : MS) (σ_475 : XS), w_L_law_l140_475 x K w5_140 w6_140 w7_140 μw_140 σw_140 (I9_40 n_140) (fun (v : Int32 × Int32 × Int32 × MS × XS) => (w_L_law_m960 x K v.1 v.2.1 v.2.2.2.1 v.2.2.2.2)) v5_475 v6_475 v7_475 v8_475 v9_475 v10_475 μ_475 σ_475 → ∀ (H : Heap) (locs : List Loc) (ls : Array Slot), HL D a x e0 A [(q0, .inl (a 0, 16, .inl (μ_475.1 0))), (q1, .inl (a 0, 64, .inl (μ_475.1 1))), (q2, .inl (a 0, 64, .inl (μ_475.1 2)))] (some σ_475) s.heap H locs → lv_has ls 17 [(0, .ref b), (1, .ref x), (2, .ref q0), (3, .ref q1), (4, .ref q2), (5, .int v5_475), (6, .int v6_475), (7, .int v7_475), (8, .int v8_475), (9, .int v9_475), (10, .int v10_475)] → W p l e R s m args below meth c H locs (k_140 + 0) (j_140 + 0) Q (F0 m 475 ls []) := by
      intro v5_475 v6_475 v7_475 v8_475 v9_475 v10_475 μ_475 σ_475 hok H locs ls hM hl
      refine lv_aload_n hx hb dL_law_475 rfl (lv_at hl 1 rfl) ?_
      refine lv_aload_n hx hb dL_law_476 rfl (lv_at hl 3 rfl) ?_
      refine lv_iload hx hb dL_law_477 (lv_at hl 10 rfl) ?_
      have ok_127 := And.left hok
      have hok := And.right hok
      refine la_I C hM 1 rfl ok_127 dL_law_479 ?_
      refine lv_aload_n hx hb dL_law_480 rfl (lv_at hl 3 rfl) ?_
      refine lv_iload hx hb dL_law_481 (lv_at hl 10 rfl) ?_
      refine lv_iconst (v := 1) hx hb dL_law_483 (by decide) ?_
      refine lv_iadd hx hb dL_law_484 ?_
      have ok_128 := And.left hok
      have hok := And.right hok
      refine la_I C hM 1 rfl ok_128 dL_law_485 ?_
      refine lv_aload_n hx hb dL_law_486 rfl (lv_at hl 3 rfl) ?_
      refine lv_iload hx hb dL_law_487 (lv_at hl 10 rfl) ?_
      refine lv_iconst (v := 2) hx hb dL_law_489 (by decide) ?_
      refine lv_iadd hx hb dL_law_490 ?_
      have ok_129 := And.left hok
      have hok := And.right hok
      refine la_I C hM 1 rfl ok_129 dL_law_491 ?_
      refine lv_aload_n hx hb dL_law_492 rfl (lv_at hl 3 rfl) ?_
      refine lv_iload hx hb dL_law_493 (lv_at hl 10 rfl) ?_
      refine lv_iconst (v := 3) hx hb dL_law_495 (by decide) ?_
      refine lv_iadd hx hb dL_law_496 ?_
      have ok_130 := And.left hok
      have hok := And.right hok
      refine la_I C hM 1 rfl ok_130 dL_law_497 ?_
      refine lv_aload_n hx hb dL_law_498 rfl (lv_at hl 3 rfl) ?_
      refine lv_iload hx hb dL_law_499 (lv_at hl 10 rfl) ?_
      refine lv_iconst (v := 4) hx hb dL_law_501 (by decide) ?_
      refine lv_iadd hx hb dL_law_502 ?_
      have ok_131 := And.left hok
      have hok := And.right hok
      refine la_I C hM 1 rfl ok_131 dL_law_503 ?_
      have ok_132 := And.left hok
      have hok := And.right hok
      refine lx_m (av := [.int (mi μ_475 1 (ix v10_475)), .int (mi μ_475 1 (ix (v10_475 + 1))), .int (mi μ_475 1 (ix (v10_475 + 2))), .int (mi μ_475 1 (ix (v10_475 + 3))), .int (mi μ_475 1 (ix (v10_475 + 4)))]) C hM hE hok (fun B => k_X10_begin l D a x e0 B hfl σ_475 (mi μ_475 1 (ix v10_475)) (mi μ_475 1 (ix (v10_475 + 1))) (mi μ_475 1 (ix (v10_475 + 2))) (mi μ_475 1 (ix (v10_475 + 3))) (mi μ_475 1 (ix (v10_475 + 4))) ok_132) cw_L_89 (okR_of hRf hRl (Nat.le_of_ble_eq_true rfl) (Nat.le_of_ble_eq_true rfl)) rfl rfl hl.1 (Nat.le_of_ble_eq_true rfl) (by omega) (by omega) dL_law_504 (fun _ σ9_133 H locs hok hM => ?_)
      have hM : HL D a x e0 A [(q0, .inl (a 0, 16, .inl (μ_475.1 0))), (q1, .inl (a 0, 64, .inl (μ_475.1 1))), (q2, .inl (a 0, 64, .inl (μ_475.1 2)))] (some σ9_133) s.heap H locs := hM
      refine lv_aload_n hx hb dL_law_507 rfl (lv_at hl 1 rfl) ?_
      refine lv_aload_n hx hb dL_law_508 rfl (lv_at hl 3 rfl) ?_
      refine lv_iload hx hb dL_law_509 (lv_at hl 10 rfl) ?_
      refine lv_iconst (v := 5) hx hb dL_law_511 (by decide) ?_
      refine lv_iadd hx hb dL_law_512 ?_
      have ok_134 := And.left hok
      have hok := And.right hok
      refine la_I C hM 1 rfl ok_134 dL_law_513 ?_
      refine lv_aload_n hx hb dL_law_514 rfl (lv_at hl 3 rfl) ?_
      refine lv_iload hx hb dL_law_515 (lv_at hl 10 rfl) ?_
      refine lv_bipush (v := 6) hx hb dL_law_517 (by decide) ?_
      refine lv_iadd hx hb dL_law_519 ?_
      have ok_135 := And.left hok
      have hok := And.right hok
      refine la_I C hM 1 rfl ok_135 dL_law_520 ?_
      refine lv_aload_n hx hb dL_law_521 rfl (lv_at hl 3 rfl) ?_
      refine lv_iload hx hb dL_law_522 (lv_at hl 10 rfl) ?_
      refine lv_bipush (v := 7) hx hb dL_law_524 (by decide) ?_
      refine lv_iadd hx hb dL_law_526 ?_
      have ok_136 := And.left hok
      have hok := And.right hok
      refine la_I C hM 1 rfl ok_136 dL_law_527 ?_
      refine lv_aload_n hx hb dL_law_528 rfl (lv_at hl 3 rfl) ?_
      refine lv_iload hx hb dL_law_529 (lv_at hl 10 rfl) ?_
      refine lv_bipush (v := 8) hx hb dL_law_531 (by decide) ?_
      refine lv_iadd hx hb dL_law_533 ?_
      have ok_137 := And.left hok
      have hok := And.right hok
      refine la_I C hM 1 rfl ok_137 dL_law_534 ?_
      have ok_138 := And.left hok
      have hok := And.right hok
      refine lx_m (av := [.int (mi μ_475 1 (ix (v10_475 + 5))), .int (mi μ_475 1 (ix (v10_475 + 6))), .int (mi μ_475 1 (ix (v10_475 + 7))), .int (mi μ_475 1 (ix (v10_475 + 8)))]) C hM hE hok (fun B => k_X10_end l D a x e0 B hfl σ9_133 (mi μ_475 1 (ix (v10_475 + 5))) (mi μ_475 1 (ix (v10_475 + 6))) (mi μ_475 1 (ix (v10_475 + 7))) (mi μ_475 1 (ix (v10_475 + 8))) ok_138) cw_L_93 (okR_of hRf hRl (Nat.le_of_ble_eq_true rfl) (Nat.le_of_ble_eq_true rfl)) rfl rfl hl.1 (Nat.le_of_ble_eq_true rfl) (by omega) (by omega) dL_law_535 (fun v9_139 σ9_140 H locs hok hM => ?_)
      have hM : HL D a x e0 A [(q0, .inl (a 0, 16, .inl (μ_475.1 0))), (q1, .inl (a 0, 64, .inl (μ_475.1 1))), (q2, .inl (a 0, 64, .inl (μ_475.1 2)))] (some σ9_140) s.heap H locs := hM
      refine lv_iload hx hb dL_law_538 (lv_at hl 5 rfl) ?_
      refine lv_icmp_eq (tgt := 545) hx hb dL_law_540 (by decide) (fun c_141 => ?_) (fun c_141 => ?_)
      · have hok := oif_pos hok c_141
        refine lv_iinc (v := (v5_475 + 1)) (lv' := [(5, .int (v5_475 + 1)), (0, .ref b), (1, .ref x), (2, .ref q0), (3, .ref q1), (4, .ref q2), (6, .int v6_475), (7, .int v7_475), (8, .int v8_475), (9, .int v9_475), (10, .int v10_475)]) hx hb dL_law_545 hl (k := 5) rfl rfl (by decide) rfl (fun ls hl => ?_)
        refine lv_goto (tgt := 604) hx hb dL_law_548 (by decide) ?_
        refine W.widen (k := (k_140 + 13)) (n := (j_140 + 378)) (by omega) (by omega) ?_
        exact J_l140_604 (v5_475 + 1) v6_475 v7_475 v8_475 v9_475 μ_475 σ9_140 hok _ _ ls hM (lv_sub hl [1, 2, 3, 4, 5, 0, 6, 7, 8, 9] rfl)
      · have hok := oif_neg hok c_141
        refine lv_iconst (v := 0) hx hb dL_law_543 (by decide) ?_
        refine W.widen (k := R.cells) (n := R.slots) (by omega) (by omega) ?_
        exact ret _ _ _ _ _ hM.2.2.1 dL_law_544 hok
    have J_l140_447 : ∀  (v5_447 : Int32) (v6_447 : Int32) (v7_447 : Int32) (v8_447 : Int32) (v9_447 : Int32) (v10_447 : Int32) (μ_447 : MS) (σ_447 : XS), w_L_law_l140_447 x K w5_140 w6_140 w7_140 μw_140 σw_140 (I9_40 n_140) (fun (v : Int32 × Int32 × Int32 × MS × XS) => (w_L_law_m960 x K v.1 v.2.1 v.2.2.2.1 v.2.2.2.2)) v5_447 v6_447 v7_447 v8_447 v9_447 v10_447 μ_447 σ_447 → ∀ (H : Heap) (locs : List Loc) (ls : Array Slot), HL D a x e0 A [(q0, .inl (a 0, 16, .inl (μ_447.1 0))), (q1, .inl (a 0, 64, .inl (μ_447.1 1))), (q2, .inl (a 0, 64, .inl (μ_447.1 2)))] (some σ_447) s.heap H locs → lv_has ls 17 [(0, .ref b), (1, .ref x), (2, .ref q0), (3, .ref q1), (4, .ref q2), (5, .int v5_447), (6, .int v6_447), (7, .int v7_447), (8, .int v8_447), (9, .int v9_447), (10, .int v10_447)] → W p l e R s m args below meth c H locs (k_140 + 0) (j_140 + 0) Q (F0 m 447 ls []) := by
      intro v5_447 v6_447 v7_447 v8_447 v9_447 v10_447 μ_447 σ_447 hok H locs ls hM hl
      refine lv_aload_n hx hb dL_law_447 rfl (lv_at hl 3 rfl) ?_
      refine lv_iload hx hb dL_law_448 (lv_at hl 10 rfl) ?_
      refine lv_bipush (v := 7) hx hb dL_law_450 (by decide) ?_
      refine lv_iadd hx hb dL_law_452 ?_
      have ok_125 := And.left hok
      have hok := And.right hok
      refine la_I C hM 1 rfl ok_125 dL_law_453 ?_
      refine lv_if_ne (tgt := 475) hx hb dL_law_454 (by decide) (fun c_126 => ?_) (fun c_126 => ?_)
      · have hok := oif_neg hok c_126
        refine W.widen (k := (k_140 + 0)) (n := (j_140 + 0)) (by omega) (by omega) ?_
        exact J_l140_475 v5_447 v6_447 v7_447 v8_447 v9_447 v10_447 μ_447 σ_447 hok _ _ ls hM (lv_sub hl [0, 1, 2, 3, 4, 5, 6, 7, 8, 9, 10] rfl)
      · have hok := oif_pos hok c_126
        refine lv_aload_n hx hb dL_law_457 rfl (lv_at hl 3 rfl) ?_
        refine lv_iload hx hb dL_law_458 (lv_at hl 10 rfl) ?_
        refine lv_bipush (v := 8) hx hb dL_law_460 (by decide) ?_
        refine lv_iadd hx hb dL_law_462 ?_
        have ok_142 := And.left hok
        have hok := And.right hok
        refine la_I C hM 1 rfl ok_142 dL_law_463 ?_
        refine lv_if_ne (tgt := 475) hx hb dL_law_464 (by decide) (fun c_143 => ?_) (fun c_143 => ?_)
        · have hok := oif_neg hok c_143
          refine W.widen (k := (k_140 + 0)) (n := (j_140 + 0)) (by omega) (by omega) ?_
          exact J_l140_475 v5_447 v6_447 v7_447 v8_447 v9_447 v10_447 μ_447 σ_447 hok _ _ ls hM (lv_sub hl [0, 1, 2, 3, 4, 5, 6, 7, 8, 9, 10] rfl)
        · have hok := oif_pos hok c_143
          refine lv_aload_n hx hb dL_law_467 rfl (lv_at hl 3 rfl) ?_
          refine lv_iload hx hb dL_law_468 (lv_at hl 10 rfl) ?_
          refine lv_bipush (v := 8) hx hb dL_law_470 (by decide) ?_
          refine lv_iadd hx hb dL_law_472 ?_
          refine lv_iconst (v := (-1)) hx hb dL_law_473 (by decide) ?_
          have ok_144 := And.left hok
          have hok := And.right hok
          refine ls_I C hM 1 rfl hA1 ok_144 dL_law_474 (fun H locs hM => ?_)
          have hM : HL D a x e0 A [(q0, .inl (a 0, 16, .inl ((mI μ_447 1 (ix (v10_447 + 8)) (-1)).1 0))), (q1, .inl (a 0, 64, .inl ((mI μ_447 1 (ix (v10_447 + 8)) (-1)).1 1))), (q2, .inl (a 0, 64, .inl ((mI μ_447 1 (ix (v10_447 + 8)) (-1)).1 2)))] (some σ_447) s.heap H locs := hM
          refine W.widen (k := (k_140 + 0)) (n := (j_140 + 0)) (by omega) (by omega) ?_
          exact J_l140_475 v5_447 v6_447 v7_447 v8_447 v9_447 v10_447 (mI μ_447 1 (ix (v10_447 + 8)) (-1)) σ_447 hok _ _ ls hM (lv_sub hl [0, 1, 2, 3, 4, 5, 6, 7, 8, 9, 10] rfl)
    have J_l140_421 : ∀  (v5_421 : Int32) (v6_421 : Int32) (v7_421 : Int32) (v8_421 : Int32) (v9_421 : Int32) (v10_421 : Int32) (μ_421 : MS) (σ_421 : XS), w_L_law_l140_421 x K w5_140 w6_140 w7_140 μw_140 σw_140 (I9_40 n_140) (fun (v : Int32 × Int32 × Int32 × MS × XS) => (w_L_law_m960 x K v.1 v.2.1 v.2.2.2.1 v.2.2.2.2)) v5_421 v6_421 v7_421 v8_421 v9_421 v10_421 μ_421 σ_421 → ∀ (H : Heap) (locs : List Loc) (ls : Array Slot), HL D a x e0 A [(q0, .inl (a 0, 16, .inl (μ_421.1 0))), (q1, .inl (a 0, 64, .inl (μ_421.1 1))), (q2, .inl (a 0, 64, .inl (μ_421.1 2)))] (some σ_421) s.heap H locs → lv_has ls 17 [(0, .ref b), (1, .ref x), (2, .ref q0), (3, .ref q1), (4, .ref q2), (5, .int v5_421), (6, .int v6_421), (7, .int v7_421), (8, .int v8_421), (9, .int v9_421), (10, .int v10_421)] → W p l e R s m args below meth c H locs (k_140 + 0) (j_140 + 0) Q (F0 m 421 ls []) := by
      intro v5_421 v6_421 v7_421 v8_421 v9_421 v10_421 μ_421 σ_421 hok H locs ls hM hl
      refine lv_aload_n hx hb dL_law_421 rfl (lv_at hl 3 rfl) ?_
      refine lv_iload hx hb dL_law_422 (lv_at hl 10 rfl) ?_
      refine lv_iconst (v := 5) hx hb dL_law_424 (by decide) ?_
      refine lv_iadd hx hb dL_law_425 ?_
      have ok_123 := And.left hok
      have hok := And.right hok
      refine la_I C hM 1 rfl ok_123 dL_law_426 ?_
      refine lv_if_ne (tgt := 447) hx hb dL_law_427 (by decide) (fun c_124 => ?_) (fun c_124 => ?_)
      · have hok := oif_neg hok c_124
        refine W.widen (k := (k_140 + 0)) (n := (j_140 + 0)) (by omega) (by omega) ?_
        exact J_l140_447 v5_421 v6_421 v7_421 v8_421 v9_421 v10_421 μ_421 σ_421 hok _ _ ls hM (lv_sub hl [0, 1, 2, 3, 4, 5, 6, 7, 8, 9, 10] rfl)
      · have hok := oif_pos hok c_124
        refine lv_aload_n hx hb dL_law_430 rfl (lv_at hl 3 rfl) ?_
        refine lv_iload hx hb dL_law_431 (lv_at hl 10 rfl) ?_
        refine lv_bipush (v := 6) hx hb dL_law_433 (by decide) ?_
        refine lv_iadd hx hb dL_law_435 ?_
        have ok_145 := And.left hok
        have hok := And.right hok
        refine la_I C hM 1 rfl ok_145 dL_law_436 ?_
        refine lv_if_ne (tgt := 447) hx hb dL_law_437 (by decide) (fun c_146 => ?_) (fun c_146 => ?_)
        · have hok := oif_neg hok c_146
          refine W.widen (k := (k_140 + 0)) (n := (j_140 + 0)) (by omega) (by omega) ?_
          exact J_l140_447 v5_421 v6_421 v7_421 v8_421 v9_421 v10_421 μ_421 σ_421 hok _ _ ls hM (lv_sub hl [0, 1, 2, 3, 4, 5, 6, 7, 8, 9, 10] rfl)
        · have hok := oif_pos hok c_146
          refine lv_aload_n hx hb dL_law_440 rfl (lv_at hl 3 rfl) ?_
          refine lv_iload hx hb dL_law_441 (lv_at hl 10 rfl) ?_
          refine lv_iconst (v := 5) hx hb dL_law_443 (by decide) ?_
          refine lv_iadd hx hb dL_law_444 ?_
          refine lv_iconst (v := 1) hx hb dL_law_445 (by decide) ?_
          have ok_147 := And.left hok
          have hok := And.right hok
          refine ls_I C hM 1 rfl hA1 ok_147 dL_law_446 (fun H locs hM => ?_)
          have hM : HL D a x e0 A [(q0, .inl (a 0, 16, .inl ((mI μ_421 1 (ix (v10_421 + 5)) 1).1 0))), (q1, .inl (a 0, 64, .inl ((mI μ_421 1 (ix (v10_421 + 5)) 1).1 1))), (q2, .inl (a 0, 64, .inl ((mI μ_421 1 (ix (v10_421 + 5)) 1).1 2)))] (some σ_421) s.heap H locs := hM
          refine W.widen (k := (k_140 + 0)) (n := (j_140 + 0)) (by omega) (by omega) ?_
          exact J_l140_447 v5_421 v6_421 v7_421 v8_421 v9_421 v10_421 (mI μ_421 1 (ix (v10_421 + 5)) 1) σ_421 hok _ _ ls hM (lv_sub hl [0, 1, 2, 3, 4, 5, 6, 7, 8, 9, 10] rfl)
    have J_l140_401 : ∀  (v5_401 : Int32) (v6_401 : Int32) (v7_401 : Int32) (v8_401 : Int32) (v9_401 : Int32) (v10_401 : Int32) (v14_401 : Int32) (μ_401 : MS) (σ_401 : XS), w_L_law_l140_401 x K w5_140 w6_140 w7_140 μw_140 σw_140 (I9_40 n_140) (fun (v : Int32 × Int32 × Int32 × MS × XS) => (w_L_law_m960 x K v.1 v.2.1 v.2.2.2.1 v.2.2.2.2)) v5_401 v6_401 v7_401 v8_401 v9_401 v10_401 v14_401 μ_401 σ_401 → ∀ (H : Heap) (locs : List Loc) (ls : Array Slot), HL D a x e0 A [(q0, .inl (a 0, 16, .inl (μ_401.1 0))), (q1, .inl (a 0, 64, .inl (μ_401.1 1))), (q2, .inl (a 0, 64, .inl (μ_401.1 2)))] (some σ_401) s.heap H locs → lv_has ls 17 [(0, .ref b), (1, .ref x), (2, .ref q0), (3, .ref q1), (4, .ref q2), (5, .int v5_401), (6, .int v6_401), (7, .int v7_401), (8, .int v8_401), (9, .int v9_401), (10, .int v10_401), (14, .int v14_401)] → W p l e R s m args below meth c H locs (k_140 + 0) (j_140 + 0) Q (F0 m 401 ls []) := by
      intro v5_401 v6_401 v7_401 v8_401 v9_401 v10_401 v14_401 μ_401 σ_401 hok H locs ls hM hl
      refine lv_aload_n hx hb dL_law_401 rfl (lv_at hl 3 rfl) ?_
      refine lv_iload hx hb dL_law_402 (lv_at hl 10 rfl) ?_
      refine lv_bipush (v := 8) hx hb dL_law_404 (by decide) ?_
      refine lv_iadd hx hb dL_law_406 ?_
      refine lv_iload hx hb dL_law_407 (lv_at hl 11 rfl) ?_
      refine lv_aload_n hx hb dL_law_409 rfl (lv_at hl 2 rfl) ?_
      refine lv_iconst (v := 3) hx hb dL_law_410 (by decide) ?_
      refine lv_aload_n hx hb dL_law_411 rfl (lv_at hl 3 rfl) ?_
      refine lv_iload hx hb dL_law_412 (lv_at hl 10 rfl) ?_
      have ok_120 := And.left hok
      have hok := And.right hok
      refine la_I C hM 1 rfl ok_120 dL_law_414 ?_
      refine lv_imul hx hb dL_law_415 ?_
      refine lv_iconst (v := 1) hx hb dL_law_416 (by decide) ?_
      refine lv_iadd hx hb dL_law_417 ?_
      have ok_121 := And.left hok
      have hok := And.right hok
      refine la_I C hM 0 rfl ok_121 dL_law_418 ?_
      refine lv_isub hx hb dL_law_419 ?_
      have ok_122 := And.left hok
      have hok := And.right hok
      refine ls_I C hM 1 rfl hA1 ok_122 dL_law_420 (fun H locs hM => ?_)
      have hM : HL D a x e0 A [(q0, .inl (a 0, 16, .inl ((mI μ_401 1 (ix (v10_401 + 8)) (v14_401 - (mi μ_401 0 (ix ((3 * (mi μ_401 1 (ix v10_401))) + 1))))).1 0))), (q1, .inl (a 0, 64, .inl ((mI μ_401 1 (ix (v10_401 + 8)) (v14_401 - (mi μ_401 0 (ix ((3 * (mi μ_401 1 (ix v10_401))) + 1))))).1 1))), (q2, .inl (a 0, 64, .inl ((mI μ_401 1 (ix (v10_401 + 8)) (v14_401 - (mi μ_401 0 (ix ((3 * (mi μ_401 1 (ix v10_401))) + 1))))).1 2)))] (some σ_401) s.heap H locs := hM
      refine W.widen (k := (k_140 + 0)) (n := (j_140 + 0)) (by omega) (by omega) ?_
      exact J_l140_421 v5_401 v6_401 v7_401 v8_401 v9_401 v10_401 (mI μ_401 1 (ix (v10_401 + 8)) (v14_401 - (mi μ_401 0 (ix ((3 * (mi μ_401 1 (ix v10_401))) + 1))))) σ_401 hok _ _ ls hM (lv_sub hl [0, 1, 2, 3, 4, 5, 6, 7, 8, 9, 10] rfl)
    have J_l140_383 : ∀  (v5_383 : Int32) (v6_383 : Int32) (v7_383 : Int32) (v8_383 : Int32) (v9_383 : Int32) (v10_383 : Int32) (v13_383 : Int32) (v14_383 : Int32) (μ_383 : MS) (σ_383 : XS), w_L_law_l140_383 x K w5_140 w6_140 w7_140 μw_140 σw_140 (I9_40 n_140) (fun (v : Int32 × Int32 × Int32 × MS × XS) => (w_L_law_m960 x K v.1 v.2.1 v.2.2.2.1 v.2.2.2.2)) v5_383 v6_383 v7_383 v8_383 v9_383 v10_383 v13_383 v14_383 μ_383 σ_383 → ∀ (H : Heap) (locs : List Loc) (ls : Array Slot), HL D a x e0 A [(q0, .inl (a 0, 16, .inl (μ_383.1 0))), (q1, .inl (a 0, 64, .inl (μ_383.1 1))), (q2, .inl (a 0, 64, .inl (μ_383.1 2)))] (some σ_383) s.heap H locs → lv_has ls 17 [(0, .ref b), (1, .ref x), (2, .ref q0), (3, .ref q1), (4, .ref q2), (5, .int v5_383), (6, .int v6_383), (7, .int v7_383), (8, .int v8_383), (9, .int v9_383), (10, .int v10_383), (13, .int v13_383), (14, .int v14_383)] → W p l e R s m args below meth c H locs (k_140 + 0) (j_140 + 0) Q (F0 m 383 ls []) := by
      intro v5_383 v6_383 v7_383 v8_383 v9_383 v10_383 v13_383 v14_383 μ_383 σ_383 hok H locs ls hM hl
      refine lv_aload_n hx hb dL_law_383 rfl (lv_at hl 3 rfl) ?_
      refine lv_iload hx hb dL_law_384 (lv_at hl 10 rfl) ?_
      refine lv_bipush (v := 7) hx hb dL_law_386 (by decide) ?_
      refine lv_iadd hx hb dL_law_388 ?_
      refine lv_iload hx hb dL_law_389 (lv_at hl 11 rfl) ?_
      refine lv_aload_n hx hb dL_law_391 rfl (lv_at hl 2 rfl) ?_
      refine lv_iconst (v := 3) hx hb dL_law_392 (by decide) ?_
      refine lv_aload_n hx hb dL_law_393 rfl (lv_at hl 3 rfl) ?_
      refine lv_iload hx hb dL_law_394 (lv_at hl 10 rfl) ?_
      have ok_117 := And.left hok
      have hok := And.right hok
      refine la_I C hM 1 rfl ok_117 dL_law_396 ?_
      refine lv_imul hx hb dL_law_397 ?_
      have ok_118 := And.left hok
      have hok := And.right hok
      refine la_I C hM 0 rfl ok_118 dL_law_398 ?_
      refine lv_isub hx hb dL_law_399 ?_
      have ok_119 := And.left hok
      have hok := And.right hok
      refine ls_I C hM 1 rfl hA1 ok_119 dL_law_400 (fun H locs hM => ?_)
      have hM : HL D a x e0 A [(q0, .inl (a 0, 16, .inl ((mI μ_383 1 (ix (v10_383 + 7)) (v13_383 - (mi μ_383 0 (ix (3 * (mi μ_383 1 (ix v10_383))))))).1 0))), (q1, .inl (a 0, 64, .inl ((mI μ_383 1 (ix (v10_383 + 7)) (v13_383 - (mi μ_383 0 (ix (3 * (mi μ_383 1 (ix v10_383))))))).1 1))), (q2, .inl (a 0, 64, .inl ((mI μ_383 1 (ix (v10_383 + 7)) (v13_383 - (mi μ_383 0 (ix (3 * (mi μ_383 1 (ix v10_383))))))).1 2)))] (some σ_383) s.heap H locs := hM
      refine W.widen (k := (k_140 + 0)) (n := (j_140 + 0)) (by omega) (by omega) ?_
      exact J_l140_401 v5_383 v6_383 v7_383 v8_383 v9_383 v10_383 v14_383 (mI μ_383 1 (ix (v10_383 + 7)) (v13_383 - (mi μ_383 0 (ix (3 * (mi μ_383 1 (ix v10_383))))))) σ_383 hok _ _ ls hM (lv_sub hl [0, 1, 2, 3, 4, 5, 6, 7, 8, 9, 10, 12] rfl)
    have J_l140_363 : ∀  (v5_363 : Int32) (v6_363 : Int32) (v7_363 : Int32) (v8_363 : Int32) (v9_363 : Int32) (v10_363 : Int32) (v12_363 : Int32) (v13_363 : Int32) (v14_363 : Int32) (μ_363 : MS) (σ_363 : XS), w_L_law_l140_363 x K w5_140 w6_140 w7_140 μw_140 σw_140 (I9_40 n_140) (fun (v : Int32 × Int32 × Int32 × MS × XS) => (w_L_law_m960 x K v.1 v.2.1 v.2.2.2.1 v.2.2.2.2)) v5_363 v6_363 v7_363 v8_363 v9_363 v10_363 v12_363 v13_363 v14_363 μ_363 σ_363 → ∀ (H : Heap) (locs : List Loc) (ls : Array Slot), HL D a x e0 A [(q0, .inl (a 0, 16, .inl (μ_363.1 0))), (q1, .inl (a 0, 64, .inl (μ_363.1 1))), (q2, .inl (a 0, 64, .inl (μ_363.1 2)))] (some σ_363) s.heap H locs → lv_has ls 17 [(0, .ref b), (1, .ref x), (2, .ref q0), (3, .ref q1), (4, .ref q2), (5, .int v5_363), (6, .int v6_363), (7, .int v7_363), (8, .int v8_363), (9, .int v9_363), (10, .int v10_363), (12, .int v12_363), (13, .int v13_363), (14, .int v14_363)] → W p l e R s m args below meth c H locs (k_140 + 0) (j_140 + 0) Q (F0 m 363 ls []) := by
      intro v5_363 v6_363 v7_363 v8_363 v9_363 v10_363 v12_363 v13_363 v14_363 μ_363 σ_363 hok H locs ls hM hl
      refine lv_aload_n hx hb dL_law_363 rfl (lv_at hl 3 rfl) ?_
      refine lv_iload hx hb dL_law_364 (lv_at hl 10 rfl) ?_
      refine lv_bipush (v := 6) hx hb dL_law_366 (by decide) ?_
      refine lv_iadd hx hb dL_law_368 ?_
      refine lv_iload hx hb dL_law_369 (lv_at hl 11 rfl) ?_
      refine lv_aload_n hx hb dL_law_371 rfl (lv_at hl 2 rfl) ?_
      refine lv_iconst (v := 3) hx hb dL_law_372 (by decide) ?_
      refine lv_aload_n hx hb dL_law_373 rfl (lv_at hl 3 rfl) ?_
      refine lv_iload hx hb dL_law_374 (lv_at hl 10 rfl) ?_
      have ok_114 := And.left hok
      have hok := And.right hok
      refine la_I C hM 1 rfl ok_114 dL_law_376 ?_
      refine lv_imul hx hb dL_law_377 ?_
      refine lv_iconst (v := 1) hx hb dL_law_378 (by decide) ?_
      refine lv_iadd hx hb dL_law_379 ?_
      have ok_115 := And.left hok
      have hok := And.right hok
      refine la_I C hM 0 rfl ok_115 dL_law_380 ?_
      refine lv_isub hx hb dL_law_381 ?_
      have ok_116 := And.left hok
      have hok := And.right hok
      refine ls_I C hM 1 rfl hA1 ok_116 dL_law_382 (fun H locs hM => ?_)
      have hM : HL D a x e0 A [(q0, .inl (a 0, 16, .inl ((mI μ_363 1 (ix (v10_363 + 6)) (v12_363 - (mi μ_363 0 (ix ((3 * (mi μ_363 1 (ix v10_363))) + 1))))).1 0))), (q1, .inl (a 0, 64, .inl ((mI μ_363 1 (ix (v10_363 + 6)) (v12_363 - (mi μ_363 0 (ix ((3 * (mi μ_363 1 (ix v10_363))) + 1))))).1 1))), (q2, .inl (a 0, 64, .inl ((mI μ_363 1 (ix (v10_363 + 6)) (v12_363 - (mi μ_363 0 (ix ((3 * (mi μ_363 1 (ix v10_363))) + 1))))).1 2)))] (some σ_363) s.heap H locs := hM
      refine W.widen (k := (k_140 + 0)) (n := (j_140 + 0)) (by omega) (by omega) ?_
      exact J_l140_383 v5_363 v6_363 v7_363 v8_363 v9_363 v10_363 v13_363 v14_363 (mI μ_363 1 (ix (v10_363 + 6)) (v12_363 - (mi μ_363 0 (ix ((3 * (mi μ_363 1 (ix v10_363))) + 1))))) σ_363 hok _ _ ls hM (lv_sub hl [0, 1, 2, 3, 4, 5, 6, 7, 8, 9, 10, 12, 13] rfl)
    have J_l140_346 : ∀  (v5_346 : Int32) (v6_346 : Int32) (v7_346 : Int32) (v8_346 : Int32) (v9_346 : Int32) (v10_346 : Int32) (v11_346 : Int32) (v12_346 : Int32) (v13_346 : Int32) (v14_346 : Int32) (μ_346 : MS) (σ_346 : XS), w_L_law_l140_346 x K w5_140 w6_140 w7_140 μw_140 σw_140 (I9_40 n_140) (fun (v : Int32 × Int32 × Int32 × MS × XS) => (w_L_law_m960 x K v.1 v.2.1 v.2.2.2.1 v.2.2.2.2)) v5_346 v6_346 v7_346 v8_346 v9_346 v10_346 v11_346 v12_346 v13_346 v14_346 μ_346 σ_346 → ∀ (H : Heap) (locs : List Loc) (ls : Array Slot), HL D a x e0 A [(q0, .inl (a 0, 16, .inl (μ_346.1 0))), (q1, .inl (a 0, 64, .inl (μ_346.1 1))), (q2, .inl (a 0, 64, .inl (μ_346.1 2)))] (some σ_346) s.heap H locs → lv_has ls 17 [(0, .ref b), (1, .ref x), (2, .ref q0), (3, .ref q1), (4, .ref q2), (5, .int v5_346), (6, .int v6_346), (7, .int v7_346), (8, .int v8_346), (9, .int v9_346), (10, .int v10_346), (11, .int v11_346), (12, .int v12_346), (13, .int v13_346), (14, .int v14_346)] → W p l e R s m args below meth c H locs (k_140 + 0) (j_140 + 0) Q (F0 m 346 ls []) := by
      intro v5_346 v6_346 v7_346 v8_346 v9_346 v10_346 v11_346 v12_346 v13_346 v14_346 μ_346 σ_346 hok H locs ls hM hl
      refine lv_aload_n hx hb dL_law_346 rfl (lv_at hl 3 rfl) ?_
      refine lv_iload hx hb dL_law_347 (lv_at hl 10 rfl) ?_
      refine lv_iconst (v := 5) hx hb dL_law_349 (by decide) ?_
      refine lv_iadd hx hb dL_law_350 ?_
      refine lv_iload hx hb dL_law_351 (lv_at hl 11 rfl) ?_
      refine lv_aload_n hx hb dL_law_353 rfl (lv_at hl 2 rfl) ?_
      refine lv_iconst (v := 3) hx hb dL_law_354 (by decide) ?_
      refine lv_aload_n hx hb dL_law_355 rfl (lv_at hl 3 rfl) ?_
      refine lv_iload hx hb dL_law_356 (lv_at hl 10 rfl) ?_
      have ok_111 := And.left hok
      have hok := And.right hok
      refine la_I C hM 1 rfl ok_111 dL_law_358 ?_
      refine lv_imul hx hb dL_law_359 ?_
      have ok_112 := And.left hok
      have hok := And.right hok
      refine la_I C hM 0 rfl ok_112 dL_law_360 ?_
      refine lv_isub hx hb dL_law_361 ?_
      have ok_113 := And.left hok
      have hok := And.right hok
      refine ls_I C hM 1 rfl hA1 ok_113 dL_law_362 (fun H locs hM => ?_)
      have hM : HL D a x e0 A [(q0, .inl (a 0, 16, .inl ((mI μ_346 1 (ix (v10_346 + 5)) (v11_346 - (mi μ_346 0 (ix (3 * (mi μ_346 1 (ix v10_346))))))).1 0))), (q1, .inl (a 0, 64, .inl ((mI μ_346 1 (ix (v10_346 + 5)) (v11_346 - (mi μ_346 0 (ix (3 * (mi μ_346 1 (ix v10_346))))))).1 1))), (q2, .inl (a 0, 64, .inl ((mI μ_346 1 (ix (v10_346 + 5)) (v11_346 - (mi μ_346 0 (ix (3 * (mi μ_346 1 (ix v10_346))))))).1 2)))] (some σ_346) s.heap H locs := hM
      refine W.widen (k := (k_140 + 0)) (n := (j_140 + 0)) (by omega) (by omega) ?_
      exact J_l140_363 v5_346 v6_346 v7_346 v8_346 v9_346 v10_346 v12_346 v13_346 v14_346 (mI μ_346 1 (ix (v10_346 + 5)) (v11_346 - (mi μ_346 0 (ix (3 * (mi μ_346 1 (ix v10_346))))))) σ_346 hok _ _ ls hM (lv_sub hl [0, 1, 2, 3, 4, 5, 6, 7, 8, 9, 10, 12, 13, 14] rfl)
    have J_l140_331 : ∀  (v5_331 : Int32) (v6_331 : Int32) (v7_331 : Int32) (v8_331 : Int32) (v9_331 : Int32) (v10_331 : Int32) (v11_331 : Int32) (v12_331 : Int32) (v13_331 : Int32) (μ_331 : MS) (σ_331 : XS), w_L_law_l140_331 x K w5_140 w6_140 w7_140 μw_140 σw_140 (I9_40 n_140) (fun (v : Int32 × Int32 × Int32 × MS × XS) => (w_L_law_m960 x K v.1 v.2.1 v.2.2.2.1 v.2.2.2.2)) v5_331 v6_331 v7_331 v8_331 v9_331 v10_331 v11_331 v12_331 v13_331 μ_331 σ_331 → ∀ (H : Heap) (locs : List Loc) (ls : Array Slot), HL D a x e0 A [(q0, .inl (a 0, 16, .inl (μ_331.1 0))), (q1, .inl (a 0, 64, .inl (μ_331.1 1))), (q2, .inl (a 0, 64, .inl (μ_331.1 2)))] (some σ_331) s.heap H locs → lv_has ls 17 [(0, .ref b), (1, .ref x), (2, .ref q0), (3, .ref q1), (4, .ref q2), (5, .int v5_331), (6, .int v6_331), (7, .int v7_331), (8, .int v8_331), (9, .int v9_331), (10, .int v10_331), (11, .int v11_331), (12, .int v12_331), (13, .int v13_331)] → W p l e R s m args below meth c H locs (k_140 + 0) (j_140 + 0) Q (F0 m 331 ls []) := by
      intro v5_331 v6_331 v7_331 v8_331 v9_331 v10_331 v11_331 v12_331 v13_331 μ_331 σ_331 hok H locs ls hM hl
      refine lv_bipush (v := 20) hx hb dL_law_331 (by decide) ?_
      refine lv_iload hx hb dL_law_333 (lv_at hl 9 rfl) ?_
      refine lv_bipush (v := 18) hx hb dL_law_335 (by decide) ?_
      refine lv_ishr hx hb dL_law_337 ?_
      refine lv_bipush (v := 60) hx hb dL_law_338 (by decide) ?_
      refine lc_S (av := [.int (v9_331 >>> ((18 : Int32) &&& 31)), .int 60]) C (k_L_low l D a (v9_331 >>> ((18 : Int32) &&& 31)) 60 (by decide)) cw_L_70 (okR_of hRf hRl (Nat.le_of_ble_eq_true rfl) (Nat.le_of_ble_eq_true rfl)) rfl rfl hl.1 (Nat.le_of_ble_eq_true rfl) (by omega) (by omega) dL_law_340 ?_
      refine lv_iadd hx hb dL_law_343 ?_
      refine lv_istore (lv' := [(14, .int (20 + (f_L_low (v9_331 >>> ((18 : Int32) &&& 31)) 60))), (0, .ref b), (1, .ref x), (2, .ref q0), (3, .ref q1), (4, .ref q2), (5, .int v5_331), (6, .int v6_331), (7, .int v7_331), (8, .int v8_331), (9, .int v9_331), (10, .int v10_331), (11, .int v11_331), (12, .int v12_331), (13, .int v13_331)]) hx hb dL_law_344 hl (by decide) rfl (fun ls hl => ?_)
      refine W.widen (k := (k_140 + 0)) (n := (j_140 + 0)) (by omega) (by omega) ?_
      exact J_l140_346 v5_331 v6_331 v7_331 v8_331 v9_331 v10_331 v11_331 v12_331 v13_331 (20 + (f_L_low (v9_331 >>> ((18 : Int32) &&& 31)) 60)) μ_331 σ_331 hok _ _ ls hM (lv_sub hl [1, 2, 3, 4, 5, 6, 7, 8, 9, 10, 11, 12, 13, 14, 0] rfl)
    have J_l140_316 : ∀  (v5_316 : Int32) (v6_316 : Int32) (v7_316 : Int32) (v8_316 : Int32) (v9_316 : Int32) (v10_316 : Int32) (v11_316 : Int32) (v12_316 : Int32) (μ_316 : MS) (σ_316 : XS), w_L_law_l140_316 x K w5_140 w6_140 w7_140 μw_140 σw_140 (I9_40 n_140) (fun (v : Int32 × Int32 × Int32 × MS × XS) => (w_L_law_m960 x K v.1 v.2.1 v.2.2.2.1 v.2.2.2.2)) v5_316 v6_316 v7_316 v8_316 v9_316 v10_316 v11_316 v12_316 μ_316 σ_316 → ∀ (H : Heap) (locs : List Loc) (ls : Array Slot), HL D a x e0 A [(q0, .inl (a 0, 16, .inl (μ_316.1 0))), (q1, .inl (a 0, 64, .inl (μ_316.1 1))), (q2, .inl (a 0, 64, .inl (μ_316.1 2)))] (some σ_316) s.heap H locs → lv_has ls 17 [(0, .ref b), (1, .ref x), (2, .ref q0), (3, .ref q1), (4, .ref q2), (5, .int v5_316), (6, .int v6_316), (7, .int v7_316), (8, .int v8_316), (9, .int v9_316), (10, .int v10_316), (11, .int v11_316), (12, .int v12_316)] → W p l e R s m args below meth c H locs (k_140 + 0) (j_140 + 0) Q (F0 m 316 ls []) := by
      intro v5_316 v6_316 v7_316 v8_316 v9_316 v10_316 v11_316 v12_316 μ_316 σ_316 hok H locs ls hM hl
      refine lv_bipush (v := 20) hx hb dL_law_316 (by decide) ?_
      refine lv_iload hx hb dL_law_318 (lv_at hl 9 rfl) ?_
      refine lv_bipush (v := 12) hx hb dL_law_320 (by decide) ?_
      refine lv_ishr hx hb dL_law_322 ?_
      refine lv_bipush (v := 60) hx hb dL_law_323 (by decide) ?_
      refine lc_S (av := [.int (v9_316 >>> ((12 : Int32) &&& 31)), .int 60]) C (k_L_low l D a (v9_316 >>> ((12 : Int32) &&& 31)) 60 (by decide)) cw_L_70 (okR_of hRf hRl (Nat.le_of_ble_eq_true rfl) (Nat.le_of_ble_eq_true rfl)) rfl rfl hl.1 (Nat.le_of_ble_eq_true rfl) (by omega) (by omega) dL_law_325 ?_
      refine lv_iadd hx hb dL_law_328 ?_
      refine lv_istore (lv' := [(13, .int (20 + (f_L_low (v9_316 >>> ((12 : Int32) &&& 31)) 60))), (0, .ref b), (1, .ref x), (2, .ref q0), (3, .ref q1), (4, .ref q2), (5, .int v5_316), (6, .int v6_316), (7, .int v7_316), (8, .int v8_316), (9, .int v9_316), (10, .int v10_316), (11, .int v11_316), (12, .int v12_316)]) hx hb dL_law_329 hl (by decide) rfl (fun ls hl => ?_)
      refine W.widen (k := (k_140 + 0)) (n := (j_140 + 0)) (by omega) (by omega) ?_
      exact J_l140_331 v5_316 v6_316 v7_316 v8_316 v9_316 v10_316 v11_316 v12_316 (20 + (f_L_low (v9_316 >>> ((12 : Int32) &&& 31)) 60)) μ_316 σ_316 hok _ _ ls hM (lv_sub hl [1, 2, 3, 4, 5, 6, 7, 8, 9, 10, 11, 12, 13, 0] rfl)
    have J_l140_289 : ∀  (v5_289 : Int32) (v6_289 : Int32) (v7_289 : Int32) (v8_289 : Int32) (v9_289 : Int32) (v10_289 : Int32) (μ_289 : MS) (σ_289 : XS), w_L_law_l140_289 x K w5_140 w6_140 w7_140 μw_140 σw_140 (I9_40 n_140) (fun (v : Int32 × Int32 × Int32 × MS × XS) => (w_L_law_m960 x K v.1 v.2.1 v.2.2.2.1 v.2.2.2.2)) v5_289 v6_289 v7_289 v8_289 v9_289 v10_289 μ_289 σ_289 → ∀ (H : Heap) (locs : List Loc) (ls : Array Slot), HL D a x e0 A [(q0, .inl (a 0, 16, .inl (μ_289.1 0))), (q1, .inl (a 0, 64, .inl (μ_289.1 1))), (q2, .inl (a 0, 64, .inl (μ_289.1 2)))] (some σ_289) s.heap H locs → lv_has ls 17 [(0, .ref b), (1, .ref x), (2, .ref q0), (3, .ref q1), (4, .ref q2), (5, .int v5_289), (6, .int v6_289), (7, .int v7_289), (8, .int v8_289), (9, .int v9_289), (10, .int v10_289)] → W p l e R s m args below meth c H locs (k_140 + 0) (j_140 + 0) Q (F0 m 289 ls []) := by
      intro v5_289 v6_289 v7_289 v8_289 v9_289 v10_289 μ_289 σ_289 hok H locs ls hM hl
      refine lv_bipush (v := 20) hx hb dL_law_289 (by decide) ?_
      refine lv_iload hx hb dL_law_291 (lv_at hl 9 rfl) ?_
      refine lv_bipush (v := 60) hx hb dL_law_293 (by decide) ?_
      refine lc_S (av := [.int v9_289, .int 60]) C (k_L_low l D a v9_289 60 (by decide)) cw_L_70 (okR_of hRf hRl (Nat.le_of_ble_eq_true rfl) (Nat.le_of_ble_eq_true rfl)) rfl rfl hl.1 (Nat.le_of_ble_eq_true rfl) (by omega) (by omega) dL_law_295 ?_
      refine lv_iadd hx hb dL_law_298 ?_
      refine lv_istore (lv' := [(11, .int (20 + (f_L_low v9_289 60))), (0, .ref b), (1, .ref x), (2, .ref q0), (3, .ref q1), (4, .ref q2), (5, .int v5_289), (6, .int v6_289), (7, .int v7_289), (8, .int v8_289), (9, .int v9_289), (10, .int v10_289)]) hx hb dL_law_299 hl (by decide) rfl (fun ls hl => ?_)
      refine lv_bipush (v := 20) hx hb dL_law_301 (by decide) ?_
      refine lv_iload hx hb dL_law_303 (lv_at hl 10 rfl) ?_
      refine lv_bipush (v := 6) hx hb dL_law_305 (by decide) ?_
      refine lv_ishr hx hb dL_law_307 ?_
      refine lv_bipush (v := 60) hx hb dL_law_308 (by decide) ?_
      refine lc_S (av := [.int (v9_289 >>> ((6 : Int32) &&& 31)), .int 60]) C (k_L_low l D a (v9_289 >>> ((6 : Int32) &&& 31)) 60 (by decide)) cw_L_70 (okR_of hRf hRl (Nat.le_of_ble_eq_true rfl) (Nat.le_of_ble_eq_true rfl)) rfl rfl hl.1 (Nat.le_of_ble_eq_true rfl) (by omega) (by omega) dL_law_310 ?_
      refine lv_iadd hx hb dL_law_313 ?_
      refine lv_istore (lv' := [(12, .int (20 + (f_L_low (v9_289 >>> ((6 : Int32) &&& 31)) 60))), (11, .int (20 + (f_L_low v9_289 60))), (0, .ref b), (1, .ref x), (2, .ref q0), (3, .ref q1), (4, .ref q2), (5, .int v5_289), (6, .int v6_289), (7, .int v7_289), (8, .int v8_289), (9, .int v9_289), (10, .int v10_289)]) hx hb dL_law_314 hl (by decide) rfl (fun ls hl => ?_)
      refine W.widen (k := (k_140 + 0)) (n := (j_140 + 0)) (by omega) (by omega) ?_
      exact J_l140_316 v5_289 v6_289 v7_289 v8_289 v9_289 v10_289 (20 + (f_L_low v9_289 60)) (20 + (f_L_low (v9_289 >>> ((6 : Int32) &&& 31)) 60)) μ_289 σ_289 hok _ _ ls hM (lv_sub hl [2, 3, 4, 5, 6, 7, 8, 9, 10, 11, 12, 1, 0] rfl)
    have J_l140_269 : ∀  (v5_269 : Int32) (v6_269 : Int32) (v7_269 : Int32) (v8_269 : Int32) (v9_269 : Int32) (v10_269 : Int32) (μ_269 : MS) (σ_269 : XS), w_L_law_l140_269 x K w5_140 w6_140 w7_140 μw_140 σw_140 (I9_40 n_140) (fun (v : Int32 × Int32 × Int32 × MS × XS) => (w_L_law_m960 x K v.1 v.2.1 v.2.2.2.1 v.2.2.2.2)) v5_269 v6_269 v7_269 v8_269 v9_269 v10_269 μ_269 σ_269 → ∀ (H : Heap) (locs : List Loc) (ls : Array Slot), HL D a x e0 A [(q0, .inl (a 0, 16, .inl (μ_269.1 0))), (q1, .inl (a 0, 64, .inl (μ_269.1 1))), (q2, .inl (a 0, 64, .inl (μ_269.1 2)))] (some σ_269) s.heap H locs → lv_has ls 17 [(0, .ref b), (1, .ref x), (2, .ref q0), (3, .ref q1), (4, .ref q2), (5, .int v5_269), (6, .int v6_269), (7, .int v7_269), (8, .int v8_269), (9, .int v9_269), (10, .int v10_269)] → W p l e R s m args below meth c H locs (k_140 + 0) (j_140 + 0) Q (F0 m 269 ls []) := by
      intro v5_269 v6_269 v7_269 v8_269 v9_269 v10_269 μ_269 σ_269 hok H locs ls hM hl
      refine lv_aload_n hx hb dL_law_269 rfl (lv_at hl 3 rfl) ?_
      refine lv_iload hx hb dL_law_270 (lv_at hl 10 rfl) ?_
      refine lv_iconst (v := 4) hx hb dL_law_272 (by decide) ?_
      refine lv_iadd hx hb dL_law_273 ?_
      refine lv_bipush (v := 40) hx hb dL_law_274 (by decide) ?_
      refine lv_iload hx hb dL_law_276 (lv_at hl 8 rfl) ?_
      refine lv_bipush (v := 17) hx hb dL_law_278 (by decide) ?_
      refine lv_ishr hx hb dL_law_280 ?_
      refine lv_sipush (v := 400) hx hb dL_law_281 (by decide) ?_
      refine lc_S (av := [.int (v8_269 >>> ((17 : Int32) &&& 31)), .int 400]) C (k_L_low l D a (v8_269 >>> ((17 : Int32) &&& 31)) 400 (by decide)) cw_L_70 (okR_of hRf hRl (Nat.le_of_ble_eq_true rfl) (Nat.le_of_ble_eq_true rfl)) rfl rfl hl.1 (Nat.le_of_ble_eq_true rfl) (by omega) (by omega) dL_law_284 ?_
      refine lv_iadd hx hb dL_law_287 ?_
      have ok_110 := And.left hok
      have hok := And.right hok
      refine ls_I C hM 1 rfl hA1 ok_110 dL_law_288 (fun H locs hM => ?_)
      have hM : HL D a x e0 A [(q0, .inl (a 0, 16, .inl ((mI μ_269 1 (ix (v10_269 + 4)) (40 + (f_L_low (v8_269 >>> ((17 : Int32) &&& 31)) 400))).1 0))), (q1, .inl (a 0, 64, .inl ((mI μ_269 1 (ix (v10_269 + 4)) (40 + (f_L_low (v8_269 >>> ((17 : Int32) &&& 31)) 400))).1 1))), (q2, .inl (a 0, 64, .inl ((mI μ_269 1 (ix (v10_269 + 4)) (40 + (f_L_low (v8_269 >>> ((17 : Int32) &&& 31)) 400))).1 2)))] (some σ_269) s.heap H locs := hM
      refine W.widen (k := (k_140 + 0)) (n := (j_140 + 0)) (by omega) (by omega) ?_
      exact J_l140_289 v5_269 v6_269 v7_269 v8_269 v9_269 v10_269 (mI μ_269 1 (ix (v10_269 + 4)) (40 + (f_L_low (v8_269 >>> ((17 : Int32) &&& 31)) 400))) σ_269 hok _ _ ls hM (lv_sub hl [0, 1, 2, 3, 4, 5, 6, 7, 8, 9, 10] rfl)
    have J_l140_264 : ∀  (v5_264 : Int32) (v6_264 : Int32) (v7_264 : Int32) (v8_264 : Int32) (v9_264 : Int32) (v10_264 : Int32) (t0_264 : Int32) (t1_264 : Int32) (t2_264 : Int32) (t3_264 : Int32) (μ_264 : MS) (σ_264 : XS), w_L_law_l140_264 x K w5_140 w6_140 w7_140 μw_140 σw_140 (I9_40 n_140) (fun (v : Int32 × Int32 × Int32 × MS × XS) => (w_L_law_m960 x K v.1 v.2.1 v.2.2.2.1 v.2.2.2.2)) v5_264 v6_264 v7_264 v8_264 v9_264 v10_264 t0_264 t1_264 t2_264 t3_264 μ_264 σ_264 → ∀ (H : Heap) (locs : List Loc) (ls : Array Slot), HL D a x e0 A [(q0, .inl (a 0, 16, .inl (μ_264.1 0))), (q1, .inl (a 0, 64, .inl (μ_264.1 1))), (q2, .inl (a 0, 64, .inl (μ_264.1 2)))] (some σ_264) s.heap H locs → lv_has ls 17 [(0, .ref b), (1, .ref x), (2, .ref q0), (3, .ref q1), (4, .ref q2), (5, .int v5_264), (6, .int v6_264), (7, .int v7_264), (8, .int v8_264), (9, .int v9_264), (10, .int v10_264)] → W p l e R s m args below meth c H locs (k_140 + 0) (j_140 + 0) Q (F0 m 264 ls [.int t0_264, .int t1_264, .int t2_264, .int t3_264, .ref q1]) := by
      intro v5_264 v6_264 v7_264 v8_264 v9_264 v10_264 t0_264 t1_264 t2_264 t3_264 μ_264 σ_264 hok H locs ls hM hl
      have ok_108 := And.left hok
      have hok := And.right hok
      refine lc_S (av := [.int t1_264, .int t0_264]) C (k_L_low l D a t1_264 t0_264 ok_108) cw_L_70 (okR_of hRf hRl (Nat.le_of_ble_eq_true rfl) (Nat.le_of_ble_eq_true rfl)) rfl rfl hl.1 (Nat.le_of_ble_eq_true rfl) (by omega) (by omega) dL_law_264 ?_
      refine lv_iadd hx hb dL_law_267 ?_
      have ok_109 := And.left hok
      have hok := And.right hok
      refine ls_I C hM 1 rfl hA1 ok_109 dL_law_268 (fun H locs hM => ?_)
      have hM : HL D a x e0 A [(q0, .inl (a 0, 16, .inl ((mI μ_264 1 (ix t3_264) (t2_264 + (f_L_low t1_264 t0_264))).1 0))), (q1, .inl (a 0, 64, .inl ((mI μ_264 1 (ix t3_264) (t2_264 + (f_L_low t1_264 t0_264))).1 1))), (q2, .inl (a 0, 64, .inl ((mI μ_264 1 (ix t3_264) (t2_264 + (f_L_low t1_264 t0_264))).1 2)))] (some σ_264) s.heap H locs := hM
      refine W.widen (k := (k_140 + 0)) (n := (j_140 + 0)) (by omega) (by omega) ?_
      exact J_l140_269 v5_264 v6_264 v7_264 v8_264 v9_264 v10_264 (mI μ_264 1 (ix t3_264) (t2_264 + (f_L_low t1_264 t0_264))) σ_264 hok _ _ ls hM (lv_sub hl [0, 1, 2, 3, 4, 5, 6, 7, 8, 9, 10] rfl)
    have J_l140_234 : ∀  (v5_234 : Int32) (v6_234 : Int32) (v7_234 : Int32) (v8_234 : Int32) (v9_234 : Int32) (v10_234 : Int32) (μ_234 : MS) (σ_234 : XS), w_L_law_l140_234 x K w5_140 w6_140 w7_140 μw_140 σw_140 (I9_40 n_140) (fun (v : Int32 × Int32 × Int32 × MS × XS) => (w_L_law_m960 x K v.1 v.2.1 v.2.2.2.1 v.2.2.2.2)) v5_234 v6_234 v7_234 v8_234 v9_234 v10_234 μ_234 σ_234 → ∀ (H : Heap) (locs : List Loc) (ls : Array Slot), HL D a x e0 A [(q0, .inl (a 0, 16, .inl (μ_234.1 0))), (q1, .inl (a 0, 64, .inl (μ_234.1 1))), (q2, .inl (a 0, 64, .inl (μ_234.1 2)))] (some σ_234) s.heap H locs → lv_has ls 17 [(0, .ref b), (1, .ref x), (2, .ref q0), (3, .ref q1), (4, .ref q2), (5, .int v5_234), (6, .int v6_234), (7, .int v7_234), (8, .int v8_234), (9, .int v9_234), (10, .int v10_234)] → W p l e R s m args below meth c H locs (k_140 + 0) (j_140 + 0) Q (F0 m 234 ls []) := by
      intro v5_234 v6_234 v7_234 v8_234 v9_234 v10_234 μ_234 σ_234 hok H locs ls hM hl
      refine lv_aload_n hx hb dL_law_234 rfl (lv_at hl 3 rfl) ?_
      refine lv_iload hx hb dL_law_235 (lv_at hl 10 rfl) ?_
      refine lv_iconst (v := 3) hx hb dL_law_237 (by decide) ?_
      refine lv_iadd hx hb dL_law_238 ?_
      refine lv_iconst (v := 1) hx hb dL_law_239 (by decide) ?_
      refine lv_iload hx hb dL_law_240 (lv_at hl 8 rfl) ?_
      refine lv_bipush (v := 9) hx hb dL_law_242 (by decide) ?_
      refine lv_ishr hx hb dL_law_244 ?_
      refine lv_iload hx hb dL_law_245 (lv_at hl 8 rfl) ?_
      refine lv_bipush (v := 14) hx hb dL_law_247 (by decide) ?_
      refine lv_ishr hx hb dL_law_249 ?_
      refine lv_iconst (v := 5) hx hb dL_law_250 (by decide) ?_
      refine lc_S (av := [.int (v8_234 >>> ((14 : Int32) &&& 31)), .int 5]) C (k_L_low l D a (v8_234 >>> ((14 : Int32) &&& 31)) 5 (by decide)) cw_L_70 (okR_of hRf hRl (Nat.le_of_ble_eq_true rfl) (Nat.le_of_ble_eq_true rfl)) rfl rfl hl.1 (Nat.le_of_ble_eq_true rfl) (by omega) (by omega) dL_law_251 ?_
      refine lv_if_ne (tgt := 262) hx hb dL_law_254 (by decide) (fun c_107 => ?_) (fun c_107 => ?_)
      · have hok := oif_neg hok c_107
        refine lv_bipush (v := 30) hx hb dL_law_262 (by decide) ?_
        refine W.widen (k := (k_140 + 0)) (n := (j_140 + 0)) (by omega) (by omega) ?_
        exact J_l140_264 v5_234 v6_234 v7_234 v8_234 v9_234 v10_234 30 (v8_234 >>> ((9 : Int32) &&& 31)) 1 (v10_234 + 3) μ_234 σ_234 hok _ _ ls hM (lv_sub hl [0, 1, 2, 3, 4, 5, 6, 7, 8, 9, 10] rfl)
      · have hok := oif_pos hok c_107
        refine lv_bipush (v := 60) hx hb dL_law_257 (by decide) ?_
        refine lv_goto (tgt := 264) hx hb dL_law_259 (by decide) ?_
        refine W.widen (k := (k_140 + 0)) (n := (j_140 + 0)) (by omega) (by omega) ?_
        exact J_l140_264 v5_234 v6_234 v7_234 v8_234 v9_234 v10_234 60 (v8_234 >>> ((9 : Int32) &&& 31)) 1 (v10_234 + 3) μ_234 σ_234 hok _ _ ls hM (lv_sub hl [0, 1, 2, 3, 4, 5, 6, 7, 8, 9, 10] rfl)
    have J_l140_215 : ∀  (v5_215 : Int32) (v6_215 : Int32) (v7_215 : Int32) (v8_215 : Int32) (v9_215 : Int32) (v10_215 : Int32) (μ_215 : MS) (σ_215 : XS), w_L_law_l140_215 x K w5_140 w6_140 w7_140 μw_140 σw_140 (I9_40 n_140) (fun (v : Int32 × Int32 × Int32 × MS × XS) => (w_L_law_m960 x K v.1 v.2.1 v.2.2.2.1 v.2.2.2.2)) v5_215 v6_215 v7_215 v8_215 v9_215 v10_215 μ_215 σ_215 → ∀ (H : Heap) (locs : List Loc) (ls : Array Slot), HL D a x e0 A [(q0, .inl (a 0, 16, .inl (μ_215.1 0))), (q1, .inl (a 0, 64, .inl (μ_215.1 1))), (q2, .inl (a 0, 64, .inl (μ_215.1 2)))] (some σ_215) s.heap H locs → lv_has ls 17 [(0, .ref b), (1, .ref x), (2, .ref q0), (3, .ref q1), (4, .ref q2), (5, .int v5_215), (6, .int v6_215), (7, .int v7_215), (8, .int v8_215), (9, .int v9_215), (10, .int v10_215)] → W p l e R s m args below meth c H locs (k_140 + 0) (j_140 + 0) Q (F0 m 215 ls []) := by
      intro v5_215 v6_215 v7_215 v8_215 v9_215 v10_215 μ_215 σ_215 hok H locs ls hM hl
      refine lv_aload_n hx hb dL_law_215 rfl (lv_at hl 3 rfl) ?_
      refine lv_iload hx hb dL_law_216 (lv_at hl 10 rfl) ?_
      refine lv_iconst (v := 2) hx hb dL_law_218 (by decide) ?_
      refine lv_iadd hx hb dL_law_219 ?_
      refine lv_sipush (v := 1000) hx hb dL_law_220 (by decide) ?_
      refine lv_iload hx hb dL_law_223 (lv_at hl 8 rfl) ?_
      refine lv_iconst (v := 5) hx hb dL_law_225 (by decide) ?_
      refine lv_ishr hx hb dL_law_226 ?_
      refine lv_bipush (v := 12) hx hb dL_law_227 (by decide) ?_
      refine lc_S (av := [.int (v8_215 >>> ((5 : Int32) &&& 31)), .int 12]) C (k_L_low l D a (v8_215 >>> ((5 : Int32) &&& 31)) 12 (by decide)) cw_L_70 (okR_of hRf hRl (Nat.le_of_ble_eq_true rfl) (Nat.le_of_ble_eq_true rfl)) rfl rfl hl.1 (Nat.le_of_ble_eq_true rfl) (by omega) (by omega) dL_law_229 ?_
      refine lv_iadd hx hb dL_law_232 ?_
      have ok_106 := And.left hok
      have hok := And.right hok
      refine ls_I C hM 1 rfl hA1 ok_106 dL_law_233 (fun H locs hM => ?_)
      have hM : HL D a x e0 A [(q0, .inl (a 0, 16, .inl ((mI μ_215 1 (ix (v10_215 + 2)) (1000 + (f_L_low (v8_215 >>> ((5 : Int32) &&& 31)) 12))).1 0))), (q1, .inl (a 0, 64, .inl ((mI μ_215 1 (ix (v10_215 + 2)) (1000 + (f_L_low (v8_215 >>> ((5 : Int32) &&& 31)) 12))).1 1))), (q2, .inl (a 0, 64, .inl ((mI μ_215 1 (ix (v10_215 + 2)) (1000 + (f_L_low (v8_215 >>> ((5 : Int32) &&& 31)) 12))).1 2)))] (some σ_215) s.heap H locs := hM
      refine W.widen (k := (k_140 + 0)) (n := (j_140 + 0)) (by omega) (by omega) ?_
      exact J_l140_234 v5_215 v6_215 v7_215 v8_215 v9_215 v10_215 (mI μ_215 1 (ix (v10_215 + 2)) (1000 + (f_L_low (v8_215 >>> ((5 : Int32) &&& 31)) 12))) σ_215 hok _ _ ls hM (lv_sub hl [0, 1, 2, 3, 4, 5, 6, 7, 8, 9, 10] rfl)
    have J_l140_214 : ∀  (v5_214 : Int32) (v6_214 : Int32) (v7_214 : Int32) (v8_214 : Int32) (v9_214 : Int32) (v10_214 : Int32) (t0_214 : Int32) (t1_214 : Int32) (μ_214 : MS) (σ_214 : XS), w_L_law_l140_214 x K w5_140 w6_140 w7_140 μw_140 σw_140 (I9_40 n_140) (fun (v : Int32 × Int32 × Int32 × MS × XS) => (w_L_law_m960 x K v.1 v.2.1 v.2.2.2.1 v.2.2.2.2)) v5_214 v6_214 v7_214 v8_214 v9_214 v10_214 t0_214 t1_214 μ_214 σ_214 → ∀ (H : Heap) (locs : List Loc) (ls : Array Slot), HL D a x e0 A [(q0, .inl (a 0, 16, .inl (μ_214.1 0))), (q1, .inl (a 0, 64, .inl (μ_214.1 1))), (q2, .inl (a 0, 64, .inl (μ_214.1 2)))] (some σ_214) s.heap H locs → lv_has ls 17 [(0, .ref b), (1, .ref x), (2, .ref q0), (3, .ref q1), (4, .ref q2), (5, .int v5_214), (6, .int v6_214), (7, .int v7_214), (8, .int v8_214), (9, .int v9_214), (10, .int v10_214)] → W p l e R s m args below meth c H locs (k_140 + 0) (j_140 + 0) Q (F0 m 214 ls [.int t0_214, .int t1_214, .ref q1]) := by
      intro v5_214 v6_214 v7_214 v8_214 v9_214 v10_214 t0_214 t1_214 μ_214 σ_214 hok H locs ls hM hl
      have ok_105 := And.left hok
      have hok := And.right hok
      refine ls_I C hM 1 rfl hA1 ok_105 dL_law_214 (fun H locs hM => ?_)
      have hM : HL D a x e0 A [(q0, .inl (a 0, 16, .inl ((mI μ_214 1 (ix t1_214) t0_214).1 0))), (q1, .inl (a 0, 64, .inl ((mI μ_214 1 (ix t1_214) t0_214).1 1))), (q2, .inl (a 0, 64, .inl ((mI μ_214 1 (ix t1_214) t0_214).1 2)))] (some σ_214) s.heap H locs := hM
      refine W.widen (k := (k_140 + 0)) (n := (j_140 + 0)) (by omega) (by omega) ?_
      exact J_l140_215 v5_214 v6_214 v7_214 v8_214 v9_214 v10_214 (mI μ_214 1 (ix t1_214) t0_214) σ_214 hok _ _ ls hM (lv_sub hl [0, 1, 2, 3, 4, 5, 6, 7, 8, 9, 10] rfl)
    have J_l140_192 : ∀  (v5_192 : Int32) (v6_192 : Int32) (v7_192 : Int32) (v8_192 : Int32) (v9_192 : Int32) (v10_192 : Int32) (μ_192 : MS) (σ_192 : XS), w_L_law_l140_192 x K w5_140 w6_140 w7_140 μw_140 σw_140 (I9_40 n_140) (fun (v : Int32 × Int32 × Int32 × MS × XS) => (w_L_law_m960 x K v.1 v.2.1 v.2.2.2.1 v.2.2.2.2)) v5_192 v6_192 v7_192 v8_192 v9_192 v10_192 μ_192 σ_192 → ∀ (H : Heap) (locs : List Loc) (ls : Array Slot), HL D a x e0 A [(q0, .inl (a 0, 16, .inl (μ_192.1 0))), (q1, .inl (a 0, 64, .inl (μ_192.1 1))), (q2, .inl (a 0, 64, .inl (μ_192.1 2)))] (some σ_192) s.heap H locs → lv_has ls 17 [(0, .ref b), (1, .ref x), (2, .ref q0), (3, .ref q1), (4, .ref q2), (5, .int v5_192), (6, .int v6_192), (7, .int v7_192), (8, .int v8_192), (9, .int v9_192), (10, .int v10_192)] → W p l e R s m args below meth c H locs (k_140 + 0) (j_140 + 0) Q (F0 m 192 ls []) := by
      intro v5_192 v6_192 v7_192 v8_192 v9_192 v10_192 μ_192 σ_192 hok H locs ls hM hl
      refine lv_aload_n hx hb dL_law_192 rfl (lv_at hl 3 rfl) ?_
      refine lv_iload hx hb dL_law_193 (lv_at hl 10 rfl) ?_
      refine lv_iconst (v := 1) hx hb dL_law_195 (by decide) ?_
      refine lv_iadd hx hb dL_law_196 ?_
      refine lv_iload hx hb dL_law_197 (lv_at hl 8 rfl) ?_
      refine lv_iconst (v := 2) hx hb dL_law_199 (by decide) ?_
      refine lv_ishr hx hb dL_law_200 ?_
      refine lv_bipush (v := 8) hx hb dL_law_201 (by decide) ?_
      refine lc_S (av := [.int (v8_192 >>> ((2 : Int32) &&& 31)), .int 8]) C (k_L_low l D a (v8_192 >>> ((2 : Int32) &&& 31)) 8 (by decide)) cw_L_70 (okR_of hRf hRl (Nat.le_of_ble_eq_true rfl) (Nat.le_of_ble_eq_true rfl)) rfl rfl hl.1 (Nat.le_of_ble_eq_true rfl) (by omega) (by omega) dL_law_203 ?_
      refine lv_if_ne (tgt := 213) hx hb dL_law_206 (by decide) (fun c_104 => ?_) (fun c_104 => ?_)
      · have hok := oif_neg hok c_104
        refine lv_iconst (v := 0) hx hb dL_law_213 (by decide) ?_
        refine W.widen (k := (k_140 + 0)) (n := (j_140 + 0)) (by omega) (by omega) ?_
        exact J_l140_214 v5_192 v6_192 v7_192 v8_192 v9_192 v10_192 0 (v10_192 + 1) μ_192 σ_192 hok _ _ ls hM (lv_sub hl [0, 1, 2, 3, 4, 5, 6, 7, 8, 9, 10] rfl)
      · have hok := oif_pos hok c_104
        refine lv_iconst (v := 1) hx hb dL_law_209 (by decide) ?_
        refine lv_goto (tgt := 214) hx hb dL_law_210 (by decide) ?_
        refine W.widen (k := (k_140 + 0)) (n := (j_140 + 0)) (by omega) (by omega) ?_
        exact J_l140_214 v5_192 v6_192 v7_192 v8_192 v9_192 v10_192 1 (v10_192 + 1) μ_192 σ_192 hok _ _ ls hM (lv_sub hl [0, 1, 2, 3, 4, 5, 6, 7, 8, 9, 10] rfl)
    refine lv_iload hx hb dL_law_140 (lv_at hl 7 rfl) ?_
    refine lv_bipush (v := 9) hx hb dL_law_142 (by decide) ?_
    refine lv_icmp_ge (tgt := 960) hx hb dL_law_144 (by decide) (fun c_44 => ?_) (fun c_44 => ?_)
    · have hok := oif_pos hok c_44
      refine W.widen (k := 464908) (n := 1911089) (by omega) (by omega) ?_
      exact J_m960 q0 hA0 q1 hA1 q2 hA2 w5_140 w6_140 μw_140 σw_140 hok _ _ ls hM (lv_sub hl [0, 1, 2, 3, 4, 5, 6] rfl)
    · have hok := oif_neg hok c_44
      refine lv_aload_n hx hb dL_law_147 rfl (lv_at hl 0 rfl) ?_
      refine lv_iload hx hb dL_law_148 (lv_at hl 6 rfl) ?_
      have ok_45 := And.left hok
      have hok := And.right hok
      refine call0S (av := [.ref b, .int w6_140]) C (k_L_cell l D a b Lx xs w6_140 ok_45) cw_L_81 (okR_of hRf hRl (Nat.le_of_ble_eq_true rfl) (Nat.le_of_ble_eq_true rfl)) (fun U g mk z h => ⟨bk_blind g mk z h.1, h.2⟩) (fun U hU hW => ⟨va_K.moved hW.alike C.2, by rw [hU]; exact (hX.kept (hM.2.2.1.2.1 b hb0 hbA)).moved hW.alike⟩) rfl rfl hl.1 (Nat.le_of_ble_eq_true rfl) (by omega) (by omega) dL_law_150 ?_
      have hok := hok (f_L_cell Lx xs w6_140)
      generalize f_L_cell Lx xs w6_140 = v9_46 at hok ⊢
      refine lv_istore (lv' := [(8, .int v9_46), (0, .ref b), (1, .ref x), (2, .ref q0), (3, .ref q1), (4, .ref q2), (5, .int w5_140), (6, .int w6_140), (7, .int w7_140)]) hx hb dL_law_153 hl (by decide) rfl (fun ls hl => ?_)
      refine lv_aload_n hx hb dL_law_155 rfl (lv_at hl 1 rfl) ?_
      refine lv_iload hx hb dL_law_156 (lv_at hl 7 rfl) ?_
      refine lv_iconst (v := 1) hx hb dL_law_158 (by decide) ?_
      refine lv_iadd hx hb dL_law_159 ?_
      have ok_47 := And.left hok
      have hok := And.right hok
      refine call0S (av := [.ref b, .int (w6_140 + 1)]) C (k_L_cell l D a b Lx xs (w6_140 + 1) ok_47) cw_L_81 (okR_of hRf hRl (Nat.le_of_ble_eq_true rfl) (Nat.le_of_ble_eq_true rfl)) (fun U g mk z h => ⟨bk_blind g mk z h.1, h.2⟩) (fun U hU hW => ⟨va_K.moved hW.alike C.2, by rw [hU]; exact (hX.kept (hM.2.2.1.2.1 b hb0 hbA)).moved hW.alike⟩) rfl rfl hl.1 (Nat.le_of_ble_eq_true rfl) (by omega) (by omega) dL_law_160 ?_
      have hok := hok (f_L_cell Lx xs (w6_140 + 1))
      generalize f_L_cell Lx xs (w6_140 + 1) = v9_48 at hok ⊢
      refine lv_istore (lv' := [(9, .int v9_48), (8, .int v9_46), (0, .ref b), (1, .ref x), (2, .ref q0), (3, .ref q1), (4, .ref q2), (5, .int w5_140), (6, .int w6_140), (7, .int w7_140)]) hx hb dL_law_163 hl (by decide) rfl (fun ls hl => ?_)
      refine lv_iinc (v := (w6_140 + 2)) (lv' := [(6, .int (w6_140 + 2)), (9, .int v9_48), (8, .int v9_46), (0, .ref b), (1, .ref x), (2, .ref q0), (3, .ref q1), (4, .ref q2), (5, .int w5_140), (7, .int w7_140)]) hx hb dL_law_165 hl (k := 8) rfl rfl (by decide) rfl (fun ls hl => ?_)
      refine lv_iload hx hb dL_law_168 (lv_at hl 8 rfl) ?_
      refine lv_bipush (v := 7) hx hb dL_law_170 (by decide) ?_
      refine lv_icmp_ge (tgt := 551) hx hb dL_law_172 (by decide) (fun c_49 => ?_) (fun c_49 => ?_)
      · have hok := oif_pos hok c_49
        refine lv_iload hx hb dL_law_551 (lv_at hl 2 rfl) ?_
        refine lv_iconst (v := 4) hx hb dL_law_553 (by decide) ?_
        refine lc_S (av := [.int v9_46, .int 4]) C (k_L_low l D a v9_46 4 (by decide)) cw_L_70 (okR_of hRf hRl (Nat.le_of_ble_eq_true rfl) (Nat.le_of_ble_eq_true rfl)) rfl rfl hl.1 (Nat.le_of_ble_eq_true rfl) (by omega) (by omega) dL_law_554 ?_
        refine lv_istore (lv' := [(10, .int (f_L_low v9_46 4)), (6, .int (w6_140 + 2)), (9, .int v9_48), (8, .int v9_46), (0, .ref b), (1, .ref x), (2, .ref q0), (3, .ref q1), (4, .ref q2), (5, .int w5_140), (7, .int w7_140)]) hx hb dL_law_557 hl (by decide) rfl (fun ls hl => ?_)
        refine lv_iload hx hb dL_law_559 (lv_at hl 3 rfl) ?_
        refine lv_iconst (v := 2) hx hb dL_law_561 (by decide) ?_
        refine lv_ishr hx hb dL_law_562 ?_
        refine lv_bipush (v := 21) hx hb dL_law_563 (by decide) ?_
        refine lc_S (av := [.int (v9_46 >>> ((2 : Int32) &&& 31)), .int 21]) C (k_L_low l D a (v9_46 >>> ((2 : Int32) &&& 31)) 21 (by decide)) cw_L_70 (okR_of hRf hRl (Nat.le_of_ble_eq_true rfl) (Nat.le_of_ble_eq_true rfl)) rfl rfl hl.1 (Nat.le_of_ble_eq_true rfl) (by omega) (by omega) dL_law_565 ?_
        refine lv_bipush (v := 10) hx hb dL_law_568 (by decide) ?_
        refine lv_isub hx hb dL_law_570 ?_
        refine lv_istore (lv' := [(11, .int ((f_L_low (v9_46 >>> ((2 : Int32) &&& 31)) 21) - 10)), (10, .int (f_L_low v9_46 4)), (6, .int (w6_140 + 2)), (9, .int v9_48), (8, .int v9_46), (0, .ref b), (1, .ref x), (2, .ref q0), (3, .ref q1), (4, .ref q2), (5, .int w5_140), (7, .int w7_140)]) hx hb dL_law_571 hl (by decide) rfl (fun ls hl => ?_)
        refine W.widen (k := (k_140 + 0)) (n := (j_140 + 0)) (by omega) (by omega) ?_
        exact J_l140_573 w5_140 (w6_140 + 2) w7_140 v9_46 v9_48 (f_L_low v9_46 4) ((f_L_low (v9_46 >>> ((2 : Int32) &&& 31)) 21) - 10) μw_140 σw_140 hok _ _ ls hM (lv_sub hl [5, 6, 7, 8, 9, 10, 2, 11, 4, 3, 1, 0] rfl)
      · have hok := oif_neg hok c_49
        refine lv_bipush (v := 9) hx hb dL_law_175 (by decide) ?_
        refine lv_iload hx hb dL_law_177 (lv_at hl 8 rfl) ?_
        refine lv_imul hx hb dL_law_179 ?_
        refine lv_istore (lv' := [(10, .int (9 * w5_140)), (6, .int (w6_140 + 2)), (9, .int v9_48), (8, .int v9_46), (0, .ref b), (1, .ref x), (2, .ref q0), (3, .ref q1), (4, .ref q2), (5, .int w5_140), (7, .int w7_140)]) hx hb dL_law_180 hl (by decide) rfl (fun ls hl => ?_)
        refine lv_aload_n hx hb dL_law_182 rfl (lv_at hl 7 rfl) ?_
        refine lv_iload hx hb dL_law_183 (lv_at hl 0 rfl) ?_
        refine lv_iload hx hb dL_law_185 (lv_at hl 3 rfl) ?_
        refine lv_iconst (v := 4) hx hb dL_law_187 (by decide) ?_
        refine lc_S (av := [.int v9_46, .int 4]) C (k_L_low l D a v9_46 4 (by decide)) cw_L_70 (okR_of hRf hRl (Nat.le_of_ble_eq_true rfl) (Nat.le_of_ble_eq_true rfl)) rfl rfl hl.1 (Nat.le_of_ble_eq_true rfl) (by omega) (by omega) dL_law_188 ?_
        have ok_103 := And.left hok
        have hok := And.right hok
        refine ls_I C hM 1 rfl hA1 ok_103 dL_law_191 (fun H locs hM => ?_)
        have hM : HL D a x e0 A [(q0, .inl (a 0, 16, .inl ((mI μw_140 1 (ix (9 * w5_140)) (f_L_low v9_46 4)).1 0))), (q1, .inl (a 0, 64, .inl ((mI μw_140 1 (ix (9 * w5_140)) (f_L_low v9_46 4)).1 1))), (q2, .inl (a 0, 64, .inl ((mI μw_140 1 (ix (9 * w5_140)) (f_L_low v9_46 4)).1 2)))] (some σw_140) s.heap H locs := hM
        refine W.widen (k := (k_140 + 0)) (n := (j_140 + 0)) (by omega) (by omega) ?_
        exact J_l140_192 w5_140 (w6_140 + 2) w7_140 v9_46 v9_48 (9 * w5_140) (mI μw_140 1 (ix (9 * w5_140)) (f_L_low v9_46 4)) σw_140 hok _ _ ls hM (lv_sub hl [4, 5, 6, 7, 8, 9, 1, 10, 3, 2, 0] rfl)
  have J_m131 : ∀ (q0 : Nat) (hA0 : A q0) (q1 : Nat) (hA1 : A q1) (q2 : Nat) (hA2 : A q2) (μ_131 : MS) (σ_131 : XS), w_L_law_m131 x K μ_131 σ_131 → ∀ (H : Heap) (locs : List Loc) (ls : Array Slot), HL D a x e0 A [(q0, .inl (a 0, 16, .inl (μ_131.1 0))), (q1, .inl (a 0, 64, .inl (μ_131.1 1))), (q2, .inl (a 0, 64, .inl (μ_131.1 2)))] (some σ_131) s.heap H locs → lv_has ls 17 [(0, .ref b), (1, .ref x), (2, .ref q0), (3, .ref q1), (4, .ref q2)] → W p l e R s m args below meth c H locs 328 28749 Q (F0 m 131 ls []) := by
    intro q0 hA0 q1 hA1 q2 hA2 μ_131 σ_131 hok H locs ls hM hl
    refine lv_iconst (v := 0) hx hb dL_law_131 (by decide) ?_
    refine lv_istore (lv' := [(5, .int 0), (0, .ref b), (1, .ref x), (2, .ref q0), (3, .ref q1), (4, .ref q2)]) hx hb dL_law_132 hl (by decide) rfl (fun ls hl => ?_)
    refine lv_iconst (v := 4) hx hb dL_law_134 (by decide) ?_
    refine lv_istore (lv' := [(6, .int 4), (5, .int 0), (0, .ref b), (1, .ref x), (2, .ref q0), (3, .ref q1), (4, .ref q2)]) hx hb dL_law_135 hl (by decide) rfl (fun ls hl => ?_)
    refine lv_iconst (v := 0) hx hb dL_law_137 (by decide) ?_
    refine lv_istore (lv' := [(7, .int 0), (6, .int 4), (5, .int 0), (0, .ref b), (1, .ref x), (2, .ref q0), (3, .ref q1), (4, .ref q2)]) hx hb dL_law_138 hl (by decide) rfl (fun ls hl => ?_)
    refine W.widen (k := 328) (n := 28749) (by omega) (by omega) ?_
    exact J_m140 q0 hA0 q1 hA1 q2 hA2 0 4 0 μ_131 σ_131 hok _ _ ls hM (lv_sub hl [3, 4, 5, 6, 7, 2, 1, 0] rfl)
  have J_m27 : ∀ (q0 : Nat) (hA0 : A q0) (q1 : Nat) (hA1 : A q1) (q2 : Nat) (hA2 : A q2) (v5_27 : Int32) (μ_27 : MS) (σ_27 : XS), w_L_law_m27 x K v5_27 μ_27 σ_27 → ∀ (H : Heap) (locs : List Loc) (ls : Array Slot), HL D a x e0 A [(q0, .inl (a 0, 16, .inl (μ_27.1 0))), (q1, .inl (a 0, 64, .inl (μ_27.1 1))), (q2, .inl (a 0, 64, .inl (μ_27.1 2)))] (some σ_27) s.heap H locs → lv_has ls 17 [(0, .ref b), (1, .ref x), (2, .ref q0), (3, .ref q1), (4, .ref q2), (5, .int v5_27)] → W p l e R s m args below meth c H locs 303 27144 Q (F0 m 27 ls []) := by
    intro q0 hA0 q1 hA1 q2 hA2 v5_27 μ_27 σ_27 hok H locs ls hM hl
    obtain ⟨I9_148, i9_149, n9_150, s9_151⟩ := hok
    refine inv_W (I := I9_148) (fun (n : Nat) (v : Int32 × MS × XS) => ∀ (k j : Nat) (H : Heap) (locs : List Loc) (ls : Array Slot), k + bud n 5 ≤ 328 → j + bud n 321 ≤ 28749 → HL D a x e0 A [(q0, .inl (a 0, 16, .inl (v.2.1.1 0))), (q1, .inl (a 0, 64, .inl (v.2.1.1 1))), (q2, .inl (a 0, 64, .inl (v.2.1.1 2)))] (some v.2.2) s.heap H locs → lv_has ls 17 [(0, .ref b), (1, .ref x), (2, .ref q0), (3, .ref q1), (4, .ref q2), (5, .int v.1)] → W p l e R s m args below meth c H locs k j Q (F0 m 27 ls [])) n9_150 (fun n_27 v hI9 kc9 => ?_) 5 (v5_27, μ_27, σ_27) i9_149 _ _ _ _ ls (bud_e (t := 25) (by omega) rfl) (bud_e (t := 1605) (by omega) rfl) hM (lv_sub hl [0, 1, 2, 3, 4, 5] rfl)
    obtain ⟨w5_27, μw_27, σw_27⟩ := v
    have hok : b_L_law_27 x K w5_27 μw_27 σw_27 (I9_148 n_27) (fun (v : Int32 × MS × XS) => (w_L_law_m131 x K v.2.1 v.2.2)) := s9_151 n_27 (w5_27, μw_27, σw_27) hI9
    intro k_27 j_27 H locs ls hk_27 hj_27 hM hl
    replace hk_27 := bud_s hk_27
    replace hj_27 := bud_s hj_27
    have J_l27_92 : ∀  (v5_92 : Int32) (μ_92 : MS) (σ_92 : XS), w_L_law_l27_92 x K w5_27 μw_27 σw_27 (I9_148 n_27) (fun (v : Int32 × MS × XS) => (w_L_law_m131 x K v.2.1 v.2.2)) v5_92 μ_92 σ_92 → ∀ (H : Heap) (locs : List Loc) (ls : Array Slot), HL D a x e0 A [(q0, .inl (a 0, 16, .inl (μ_92.1 0))), (q1, .inl (a 0, 64, .inl (μ_92.1 1))), (q2, .inl (a 0, 64, .inl (μ_92.1 2)))] (some σ_92) s.heap H locs → lv_has ls 17 [(0, .ref b), (1, .ref x), (2, .ref q0), (3, .ref q1), (4, .ref q2), (5, .int v5_92)] → W p l e R s m args below meth c H locs (k_27 + 0) (j_27 + 0) Q (F0 m 92 ls []) := by
      intro v5_92 μ_92 σ_92 hok H locs ls hM hl
      refine lv_aload_n hx hb dL_law_92 rfl (lv_at hl 1 rfl) ?_
      refine lv_aload_n hx hb dL_law_93 rfl (lv_at hl 2 rfl) ?_
      refine lv_iconst (v := 3) hx hb dL_law_94 (by decide) ?_
      refine lv_iload hx hb dL_law_95 (lv_at hl 5 rfl) ?_
      refine lv_imul hx hb dL_law_97 ?_
      have ok_158 := And.left hok
      have hok := And.right hok
      refine la_I C hM 0 rfl ok_158 dL_law_98 ?_
      refine lv_aload_n hx hb dL_law_99 rfl (lv_at hl 2 rfl) ?_
      refine lv_iconst (v := 3) hx hb dL_law_100 (by decide) ?_
      refine lv_iload hx hb dL_law_101 (lv_at hl 5 rfl) ?_
      refine lv_imul hx hb dL_law_103 ?_
      refine lv_iconst (v := 1) hx hb dL_law_104 (by decide) ?_
      refine lv_iadd hx hb dL_law_105 ?_
      have ok_159 := And.left hok
      have hok := And.right hok
      refine la_I C hM 0 rfl ok_159 dL_law_106 ?_
      refine lv_aload_n hx hb dL_law_107 rfl (lv_at hl 2 rfl) ?_
      refine lv_iconst (v := 3) hx hb dL_law_108 (by decide) ?_
      refine lv_iload hx hb dL_law_109 (lv_at hl 5 rfl) ?_
      refine lv_imul hx hb dL_law_111 ?_
      refine lv_iconst (v := 2) hx hb dL_law_112 (by decide) ?_
      refine lv_iadd hx hb dL_law_113 ?_
      have ok_160 := And.left hok
      have hok := And.right hok
      refine la_I C hM 0 rfl ok_160 dL_law_114 ?_
      have ok_161 := And.left hok
      have hok := And.right hok
      refine lx_m (av := [.int (mi μ_92 0 (ix (3 * v5_92))), .int (mi μ_92 0 (ix ((3 * v5_92) + 1))), .int (mi μ_92 0 (ix ((3 * v5_92) + 2)))]) C hM hE hok (fun B => k_X10_camera l D a x e0 B hfl σ_92 (mi μ_92 0 (ix (3 * v5_92))) (mi μ_92 0 (ix ((3 * v5_92) + 1))) (mi μ_92 0 (ix ((3 * v5_92) + 2))) ok_161) cw_L_85 (okR_of hRf hRl (Nat.le_of_ble_eq_true rfl) (Nat.le_of_ble_eq_true rfl)) rfl rfl hl.1 (Nat.le_of_ble_eq_true rfl) (by omega) (by omega) dL_law_115 (fun v9_162 σ9_163 H locs hok hM => ?_)
      have hM : HL D a x e0 A [(q0, .inl (a 0, 16, .inl (μ_92.1 0))), (q1, .inl (a 0, 64, .inl (μ_92.1 1))), (q2, .inl (a 0, 64, .inl (μ_92.1 2)))] (some σ9_163) s.heap H locs := hM
      refine lv_iload hx hb dL_law_118 (lv_at hl 5 rfl) ?_
      refine lv_icmp_eq (tgt := 125) hx hb dL_law_120 (by decide) (fun c_164 => ?_) (fun c_164 => ?_)
      · have hok := oif_pos hok c_164
        refine lv_iinc (v := (v5_92 + 1)) (lv' := [(5, .int (v5_92 + 1)), (0, .ref b), (1, .ref x), (2, .ref q0), (3, .ref q1), (4, .ref q2)]) hx hb dL_law_125 hl (k := 5) rfl rfl (by decide) rfl (fun ls hl => ?_)
        refine lv_goto (tgt := 27) hx hb dL_law_128 (by decide) ?_
        exact kc9 ((v5_92 + 1), μ_92, σ9_163) hok _ _ _ _ _ (by omega) (by omega) hM (lv_sub hl [1, 2, 3, 4, 5, 0] rfl)
      · have hok := oif_neg hok c_164
        refine lv_iconst (v := 0) hx hb dL_law_123 (by decide) ?_
        refine W.widen (k := R.cells) (n := R.slots) (by omega) (by omega) ?_
        exact ret _ _ _ _ _ hM.2.2.1 dL_law_124 hok
    have J_l27_72 : ∀  (v5_72 : Int32) (v6_72 : Int32) (μ_72 : MS) (σ_72 : XS), w_L_law_l27_72 x K w5_27 μw_27 σw_27 (I9_148 n_27) (fun (v : Int32 × MS × XS) => (w_L_law_m131 x K v.2.1 v.2.2)) v5_72 v6_72 μ_72 σ_72 → ∀ (H : Heap) (locs : List Loc) (ls : Array Slot), HL D a x e0 A [(q0, .inl (a 0, 16, .inl (μ_72.1 0))), (q1, .inl (a 0, 64, .inl (μ_72.1 1))), (q2, .inl (a 0, 64, .inl (μ_72.1 2)))] (some σ_72) s.heap H locs → lv_has ls 17 [(0, .ref b), (1, .ref x), (2, .ref q0), (3, .ref q1), (4, .ref q2), (5, .int v5_72), (6, .int v6_72)] → W p l e R s m args below meth c H locs (k_27 + 0) (j_27 + 0) Q (F0 m 72 ls []) := by
      intro v5_72 v6_72 μ_72 σ_72 hok H locs ls hM hl
      refine lv_aload_n hx hb dL_law_72 rfl (lv_at hl 2 rfl) ?_
      refine lv_iconst (v := 3) hx hb dL_law_73 (by decide) ?_
      refine lv_iload hx hb dL_law_74 (lv_at hl 5 rfl) ?_
      refine lv_imul hx hb dL_law_76 ?_
      refine lv_iconst (v := 2) hx hb dL_law_77 (by decide) ?_
      refine lv_iadd hx hb dL_law_78 ?_
      refine lv_iload hx hb dL_law_79 (lv_at hl 6 rfl) ?_
      refine lv_bipush (v := 14) hx hb dL_law_81 (by decide) ?_
      refine lv_ishr hx hb dL_law_83 ?_
      refine lv_bipush (v := 11) hx hb dL_law_84 (by decide) ?_
      refine lc_S (av := [.int (v6_72 >>> ((14 : Int32) &&& 31)), .int 11]) C (k_L_low l D a (v6_72 >>> ((14 : Int32) &&& 31)) 11 (by decide)) cw_L_70 (okR_of hRf hRl (Nat.le_of_ble_eq_true rfl) (Nat.le_of_ble_eq_true rfl)) rfl rfl hl.1 (Nat.le_of_ble_eq_true rfl) (by omega) (by omega) dL_law_86 ?_
      refine lv_iconst (v := 5) hx hb dL_law_89 (by decide) ?_
      refine lv_isub hx hb dL_law_90 ?_
      have ok_157 := And.left hok
      have hok := And.right hok
      refine ls_I C hM 0 rfl hA0 ok_157 dL_law_91 (fun H locs hM => ?_)
      have hM : HL D a x e0 A [(q0, .inl (a 0, 16, .inl ((mI μ_72 0 (ix ((3 * v5_72) + 2)) ((f_L_low (v6_72 >>> ((14 : Int32) &&& 31)) 11) - 5)).1 0))), (q1, .inl (a 0, 64, .inl ((mI μ_72 0 (ix ((3 * v5_72) + 2)) ((f_L_low (v6_72 >>> ((14 : Int32) &&& 31)) 11) - 5)).1 1))), (q2, .inl (a 0, 64, .inl ((mI μ_72 0 (ix ((3 * v5_72) + 2)) ((f_L_low (v6_72 >>> ((14 : Int32) &&& 31)) 11) - 5)).1 2)))] (some σ_72) s.heap H locs := hM
      refine W.widen (k := (k_27 + 0)) (n := (j_27 + 0)) (by omega) (by omega) ?_
      exact J_l27_92 v5_72 (mI μ_72 0 (ix ((3 * v5_72) + 2)) ((f_L_low (v6_72 >>> ((14 : Int32) &&& 31)) 11) - 5)) σ_72 hok _ _ ls hM (lv_sub hl [0, 1, 2, 3, 4, 5] rfl)
    have J_l27_54 : ∀  (v5_54 : Int32) (v6_54 : Int32) (μ_54 : MS) (σ_54 : XS), w_L_law_l27_54 x K w5_27 μw_27 σw_27 (I9_148 n_27) (fun (v : Int32 × MS × XS) => (w_L_law_m131 x K v.2.1 v.2.2)) v5_54 v6_54 μ_54 σ_54 → ∀ (H : Heap) (locs : List Loc) (ls : Array Slot), HL D a x e0 A [(q0, .inl (a 0, 16, .inl (μ_54.1 0))), (q1, .inl (a 0, 64, .inl (μ_54.1 1))), (q2, .inl (a 0, 64, .inl (μ_54.1 2)))] (some σ_54) s.heap H locs → lv_has ls 17 [(0, .ref b), (1, .ref x), (2, .ref q0), (3, .ref q1), (4, .ref q2), (5, .int v5_54), (6, .int v6_54)] → W p l e R s m args below meth c H locs (k_27 + 0) (j_27 + 0) Q (F0 m 54 ls []) := by
      intro v5_54 v6_54 μ_54 σ_54 hok H locs ls hM hl
      refine lv_aload_n hx hb dL_law_54 rfl (lv_at hl 2 rfl) ?_
      refine lv_iconst (v := 3) hx hb dL_law_55 (by decide) ?_
      refine lv_iload hx hb dL_law_56 (lv_at hl 5 rfl) ?_
      refine lv_imul hx hb dL_law_58 ?_
      refine lv_iconst (v := 1) hx hb dL_law_59 (by decide) ?_
      refine lv_iadd hx hb dL_law_60 ?_
      refine lv_iload hx hb dL_law_61 (lv_at hl 6 rfl) ?_
      refine lv_bipush (v := 7) hx hb dL_law_63 (by decide) ?_
      refine lv_ishr hx hb dL_law_65 ?_
      refine lv_bipush (v := 100) hx hb dL_law_66 (by decide) ?_
      refine lc_S (av := [.int (v6_54 >>> ((7 : Int32) &&& 31)), .int 100]) C (k_L_low l D a (v6_54 >>> ((7 : Int32) &&& 31)) 100 (by decide)) cw_L_70 (okR_of hRf hRl (Nat.le_of_ble_eq_true rfl) (Nat.le_of_ble_eq_true rfl)) rfl rfl hl.1 (Nat.le_of_ble_eq_true rfl) (by omega) (by omega) dL_law_68 ?_
      have ok_156 := And.left hok
      have hok := And.right hok
      refine ls_I C hM 0 rfl hA0 ok_156 dL_law_71 (fun H locs hM => ?_)
      have hM : HL D a x e0 A [(q0, .inl (a 0, 16, .inl ((mI μ_54 0 (ix ((3 * v5_54) + 1)) (f_L_low (v6_54 >>> ((7 : Int32) &&& 31)) 100)).1 0))), (q1, .inl (a 0, 64, .inl ((mI μ_54 0 (ix ((3 * v5_54) + 1)) (f_L_low (v6_54 >>> ((7 : Int32) &&& 31)) 100)).1 1))), (q2, .inl (a 0, 64, .inl ((mI μ_54 0 (ix ((3 * v5_54) + 1)) (f_L_low (v6_54 >>> ((7 : Int32) &&& 31)) 100)).1 2)))] (some σ_54) s.heap H locs := hM
      refine W.widen (k := (k_27 + 0)) (n := (j_27 + 0)) (by omega) (by omega) ?_
      exact J_l27_72 v5_54 v6_54 (mI μ_54 0 (ix ((3 * v5_54) + 1)) (f_L_low (v6_54 >>> ((7 : Int32) &&& 31)) 100)) σ_54 hok _ _ ls hM (lv_sub hl [0, 1, 2, 3, 4, 5, 6] rfl)
    refine lv_iload hx hb dL_law_27 (lv_at hl 5 rfl) ?_
    refine lv_iconst (v := 4) hx hb dL_law_29 (by decide) ?_
    refine lv_icmp_ge (tgt := 131) hx hb dL_law_30 (by decide) (fun c_152 => ?_) (fun c_152 => ?_)
    · have hok := oif_pos hok c_152
      refine W.widen (k := 328) (n := 28749) (by omega) (by omega) ?_
      exact J_m131 q0 hA0 q1 hA1 q2 hA2 μw_27 σw_27 hok _ _ ls hM (lv_sub hl [0, 1, 2, 3, 4] rfl)
    · have hok := oif_neg hok c_152
      refine lv_aload_n hx hb dL_law_33 rfl (lv_at hl 0 rfl) ?_
      refine lv_iload hx hb dL_law_34 (lv_at hl 5 rfl) ?_
      have ok_153 := And.left hok
      have hok := And.right hok
      refine call0S (av := [.ref b, .int w5_27]) C (k_L_cell l D a b Lx xs w5_27 ok_153) cw_L_81 (okR_of hRf hRl (Nat.le_of_ble_eq_true rfl) (Nat.le_of_ble_eq_true rfl)) (fun U g mk z h => ⟨bk_blind g mk z h.1, h.2⟩) (fun U hU hW => ⟨va_K.moved hW.alike C.2, by rw [hU]; exact (hX.kept (hM.2.2.1.2.1 b hb0 hbA)).moved hW.alike⟩) rfl rfl hl.1 (Nat.le_of_ble_eq_true rfl) (by omega) (by omega) dL_law_36 ?_
      have hok := hok (f_L_cell Lx xs w5_27)
      generalize f_L_cell Lx xs w5_27 = v9_154 at hok ⊢
      refine lv_istore (lv' := [(6, .int v9_154), (0, .ref b), (1, .ref x), (2, .ref q0), (3, .ref q1), (4, .ref q2), (5, .int w5_27)]) hx hb dL_law_39 hl (by decide) rfl (fun ls hl => ?_)
      refine lv_aload_n hx hb dL_law_41 rfl (lv_at hl 3 rfl) ?_
      refine lv_iconst (v := 3) hx hb dL_law_42 (by decide) ?_
      refine lv_iload hx hb dL_law_43 (lv_at hl 6 rfl) ?_
      refine lv_imul hx hb dL_law_45 ?_
      refine lv_iload hx hb dL_law_46 (lv_at hl 0 rfl) ?_
      refine lv_bipush (v := 100) hx hb dL_law_48 (by decide) ?_
      refine lc_S (av := [.int v9_154, .int 100]) C (k_L_low l D a v9_154 100 (by decide)) cw_L_70 (okR_of hRf hRl (Nat.le_of_ble_eq_true rfl) (Nat.le_of_ble_eq_true rfl)) rfl rfl hl.1 (Nat.le_of_ble_eq_true rfl) (by omega) (by omega) dL_law_50 ?_
      have ok_155 := And.left hok
      have hok := And.right hok
      refine ls_I C hM 0 rfl hA0 ok_155 dL_law_53 (fun H locs hM => ?_)
      have hM : HL D a x e0 A [(q0, .inl (a 0, 16, .inl ((mI μw_27 0 (ix (3 * w5_27)) (f_L_low v9_154 100)).1 0))), (q1, .inl (a 0, 64, .inl ((mI μw_27 0 (ix (3 * w5_27)) (f_L_low v9_154 100)).1 1))), (q2, .inl (a 0, 64, .inl ((mI μw_27 0 (ix (3 * w5_27)) (f_L_low v9_154 100)).1 2)))] (some σw_27) s.heap H locs := hM
      refine W.widen (k := (k_27 + 0)) (n := (j_27 + 0)) (by omega) (by omega) ?_
      exact J_l27_54 w5_27 v9_154 (mI μw_27 0 (ix (3 * w5_27)) (f_L_low v9_154 100)) σw_27 hok _ _ ls hM (lv_sub hl [1, 2, 3, 4, 5, 6, 0] rfl)
  refine lv_bipush (v := nI 16) hx hb dL_law_8 (by decide) ?_
  refine ln_I C hM hAf (N := 16) (by omega) (by omega) (by omega) dL_law_10 (fun q0 H locs hA0 hM => ?_)
  have hM : HL D a x e0 A [(q0, .inl (a 0, 16, .inl ((mZI μ 0).1 0)))] (some σ) s.heap H locs := hM
  refine lv_astore_n (lv' := [(2, .ref q0), (1, .ref x), (0, .ref b)]) hx hb dL_law_12 rfl hl (by decide) rfl (fun ls hl => ?_)
  refine lv_bipush (v := nI 64) hx hb dL_law_13 (by decide) ?_
  refine ln_I C hM hAf (N := 64) (by omega) (by omega) (by omega) dL_law_15 (fun q1 H locs hA1 hM => ?_)
  have hM : HL D a x e0 A [(q0, .inl (a 0, 16, .inl ((mZI (mZI μ 0) 1).1 0))), (q1, .inl (a 0, 64, .inl ((mZI (mZI μ 0) 1).1 1)))] (some σ) s.heap H locs := hM
  refine lv_astore_n (lv' := [(3, .ref q1), (2, .ref q0), (1, .ref x), (0, .ref b)]) hx hb dL_law_17 rfl hl (by decide) rfl (fun ls hl => ?_)
  refine lv_bipush (v := nI 64) hx hb dL_law_18 (by decide) ?_
  refine ln_I C hM hAf (N := 64) (by omega) (by omega) (by omega) dL_law_20 (fun q2 H locs hA2 hM => ?_)
  have hM : HL D a x e0 A [(q0, .inl (a 0, 16, .inl ((mZI (mZI (mZI μ 0) 1) 2).1 0))), (q1, .inl (a 0, 64, .inl ((mZI (mZI (mZI μ 0) 1) 2).1 1))), (q2, .inl (a 0, 64, .inl ((mZI (mZI (mZI μ 0) 1) 2).1 2)))] (some σ) s.heap H locs := hM
  refine lv_astore (lv' := [(4, .ref q2), (3, .ref q1), (2, .ref q0), (1, .ref x), (0, .ref b)]) hx hb dL_law_22 hl (by decide) rfl (fun ls hl => ?_)
  refine lv_iconst (v := 0) hx hb dL_law_24 (by decide) ?_
  refine lv_istore (lv' := [(5, .int 0), (4, .ref q2), (3, .ref q1), (2, .ref q0), (1, .ref x), (0, .ref b)]) hx hb dL_law_25 hl (by decide) rfl (fun ls hl => ?_)
  refine W.widen (k := 303) (n := 27144) (by omega) (by omega) ?_
  exact J_m27 q0 hA0 q1 hA1 q2 hA2 0 (mZI (mZI (mZI μ 0) 1) 2) σ hok _ _ ls hM (lv_sub hl [5, 4, 3, 2, 1, 0] rfl)

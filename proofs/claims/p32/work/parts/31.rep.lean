/-! ===== the two memories against each other (all but what is gathered of fireballs) ===== -/
def Lst (σ : XS) (j K n : Nat) : Prop := xn σ j = n ∧ (∀ i, i < n → xk σ (xe σ j i) = K) ∧ ∀ i k, i < n → k < n → xe σ j i = xe σ j k → i = k
def rng (lo hi v : Int32) : Prop := lo ≤ v ∧ v ≤ hi
/-- cameras -/
def RCam (σ : XS) (μ : MS) (n0 : Nat) : Prop := n0 ≤ 10 ∧ mi μ 1 0 = nI n0 ∧ Lst σ 0 1 n0 ∧ ∀ i, i < n0 → xi σ 20 (xe σ 0 i) = mi μ 2 i ∧ xi σ 21 (xe σ 0 i) = mi μ 3 i ∧ xi σ 22 (xe σ 0 i) = mi μ 4 i ∧ rng 0 99 (mi μ 2 i) ∧ rng 0 99 (mi μ 3 i) ∧ rng (-99) 99 (mi μ 4 i)
/-- clouds -/
def RClo (σ : XS) (μ : MS) (n0 n1 : Nat) : Prop := n1 ≤ 50 ∧ mi μ 5 0 = nI n1 ∧ Lst σ 1 2 n1 ∧ (∀ i, i < n1 → ∃ c, c < n0 ∧ mi μ 6 i = nI c ∧ xr σ 40 (xe σ 1 i) = xe σ 0 c ∧ xi σ 41 (xe σ 1 i) = mi μ 7 i ∧ rng 0 3649 (mi μ 7 i)) ∧ ∀ i k, i < n1 → k < n1 → mi μ 6 i = mi μ 6 k → mi μ 7 i = mi μ 7 k → i = k
/-- a sighting's first five -/
def RSig (σ : XS) (n0 q : Nat) (c ni se le li : Int32) : Prop := xk σ q = 7 ∧ (∃ k, k < n0 ∧ c = nI k ∧ xr σ 140 q = xe σ 0 k) ∧ xi σ 141 q = ni ∧ xi σ 142 q = se ∧ xi σ 143 q = le ∧ xi σ 144 q = li ∧ rng 0 3649 ni ∧ rng 0 86399 se ∧ rng 1 60 le ∧ rng 1 1000 li
def RBeg (σ : XS) (x : Nat) (μ : MS) (n0 n2 : Nat) : Prop := (mi μ 8 0 = -1 ∧ xr σ 223 x = 0) ∨ (xr σ 223 x ≠ 0 ∧ (∀ i, i < n2 → xe σ 2 i ≠ xr σ 223 x) ∧ RSig σ n0 (xr σ 223 x) (mi μ 8 0) (mi μ 9 0) (mi μ 10 0) (mi μ 11 0) (mi μ 12 0))
def isDir (x y : Int32) : Prop := rng (-100) 100 x ∧ rng (-100) 100 y ∧ ¬ (x = 0 ∧ y = 0)
/-- sightings -/
def RSis (σ : XS) (μ : MS) (n0 n2 : Nat) : Prop := n2 ≤ 60 ∧ mi μ 13 0 = nI n2 ∧ Lst σ 2 7 n2 ∧ ∀ i, i < n2 → RSig σ n0 (xe σ 2 i) (mi μ 14 i) (mi μ 15 i) (mi μ 16 i) (mi μ 17 i) (mi μ 18 i) ∧ xi σ 145 (xe σ 2 i) = mi μ 19 i ∧ xi σ 146 (xe σ 2 i) = mi μ 20 i ∧ xi σ 147 (xe σ 2 i) = mi μ 21 i ∧ xi σ 148 (xe σ 2 i) = mi μ 22 i ∧ isDir (mi μ 19 i) (mi μ 20 i) ∧ isDir (mi μ 21 i) (mi μ 22 i)
/-- winds -/
def RWin (σ : XS) (μ : MS) (n4 : Nat) : Prop := n4 ≤ 50 ∧ (∀ i, i < n4 → xe σ 4 i ≠ 0) ∧ mi μ 35 0 = nI n4 ∧ Lst σ 4 10 n4 ∧ (∀ i, i < n4 → xi σ 200 (xe σ 4 i) = mi μ 36 i ∧ xi σ 201 (xe σ 4 i) = mi μ 37 i ∧ xi σ 202 (xe σ 4 i) = mi μ 38 i ∧ rng 0 3649 (mi μ 36 i) ∧ rng (-20) 20 (mi μ 37 i) ∧ rng (-20) 20 (mi μ 38 i)) ∧ ∀ i k, i < n4 → k < n4 → mi μ 36 i = mi μ 36 k → i = k
/-- walks -/
def RWal (σ : XS) (μ : MS) (n5 : Nat) : Prop := n5 ≤ 60 ∧ mi μ 39 0 = nI n5 ∧ Lst σ 5 9 n5 ∧ ∀ i, i < n5 → xi σ 180 (xe σ 5 i) = mi μ 40 i ∧ xi σ 181 (xe σ 5 i) = mi μ 41 i ∧ xi σ 182 (xe σ 5 i) = mi μ 42 i ∧ xi σ 183 (xe σ 5 i) = mi μ 43 i ∧ rng 0 99 (mi μ 41 i) ∧ rng 0 99 (mi μ 42 i) ∧ rng 1 100 (mi μ 43 i) ∧ (xi σ 184 (xe σ 5 i) = 0 ∧ (∃ k, k < i ∧ mi μ 40 k = mi μ 40 i ∧ mi μ 41 k = mi μ 41 i ∧ mi μ 42 k = mi μ 42 i) ∨ xi σ 184 (xe σ 5 i) = 1 ∧ ¬ ∃ k, k < i ∧ mi μ 40 k = mi μ 40 i ∧ mi μ 41 k = mi μ 41 i ∧ mi μ 42 k = mi μ 42 i)
/-- how many of the first n are p -/
def cnt (f : Nat → Int32) (p : Int32) : Nat → Nat
  | 0 => 0
  | n + 1 => cnt f p n + (if f n = p then 1 else 0)
/-- stones -/
def RSto (σ : XS) (μ : MS) (n6 : Nat) : Prop := n6 ≤ 40 ∧ (∀ i, i < n6 → xe σ 6 i ≠ 0) ∧ (∀ i, n6 ≤ i → mi μ 52 i = 0 ∧ mi μ 55 i = 0 ∧ mi μ 56 i = 0 ∧ mi μ 61 i = 0) ∧ mi μ 46 0 = nI n6 ∧ Lst σ 6 8 n6 ∧ ∀ i, i < n6 → xi σ 160 (xe σ 6 i) = nI i ∧ xi σ 161 (xe σ 6 i) = mi μ 47 i ∧ xi σ 162 (xe σ 6 i) = mi μ 48 i ∧ xi σ 163 (xe σ 6 i) = mi μ 49 i ∧ xi σ 165 (xe σ 6 i) = mi μ 50 i ∧ xi σ 166 (xe σ 6 i) = mi μ 55 i ∧ xi σ 167 (xe σ 6 i) = mi μ 51 i ∧ xi σ 168 (xe σ 6 i) = mi μ 52 i ∧ xi σ 169 (xe σ 6 i) = mi μ 53 i ∧ xi σ 175 (xe σ 6 i) = mi μ 61 i ∧ zb (mi μ 61 i) ∧ rng 0 99 (mi μ 47 i) ∧ rng 0 99 (mi μ 48 i) ∧ rng 0 3649 (mi μ 49 i) ∧
  (mi μ 54 i = -1 ∧ xr σ 164 (xe σ 6 i) = 0 ∨ ∃ c, c < i ∧ mi μ 54 i = nI c ∧ xr σ 164 (xe σ 6 i) = xe σ 6 c) ∧
  (mi μ 56 i = 0 ∧ xi σ 170 (xe σ 6 i) = -1 ∨ mi μ 56 i = 1 ∧ xi σ 170 (xe σ 6 i) = mi μ 57 i ∧ rng 0 1000 (mi μ 57 i) ∧ xi σ 171 (xe σ 6 i) = mi μ 58 i ∧ rng 0 9 (mi μ 58 i) ∧ xi σ 172 (xe σ 6 i) = mi μ 59 i ∧ rng 0 9 (mi μ 59 i)) ∧
  (xi σ 173 (xe σ 6 i) = -1 ∧ mi μ 60 i = -1 ∨ rng 0 9 (xi σ 173 (xe σ 6 i)) ∧ rng 1 40 (xi σ 174 (xe σ 6 i)) ∧ mi μ 60 i = 100 * xi σ 173 (xe σ 6 i) + xi σ 174 (xe σ 6 i))
/-- laws, names of places, rules -/
def RLaw (σ : XS) (μ : MS) : Prop := ∀ i, i < 4 → xi σ 240 i = mi μ 66 i ∧ rng 0 2 (mi μ 66 i)
def RNam (σ : XS) (μ : MS) (n6 : Nat) : Prop := ∀ i, i < 10 → xi σ 241 i = mi μ 62 i ∧ mi μ 62 i = nI (cnt (fun k => xi σ 173 (xe σ 6 k)) (nI i) n6)
def RRul (σ : XS) (μ : MS) : Prop := ∀ i, i < 10 → (mi μ 63 i = 0 ∧ xr σ 242 i = 0 ∨ mi μ 63 i = 1 ∧ xk σ (xr σ 242 i) = 6 ∧ xr σ 242 i ≠ 0 ∧ xi σ 120 (xr σ 242 i) = mi μ 64 i ∧ xi σ 121 (xr σ 242 i) = mi μ 65 i)
/-- all of it but the gathered fireballs -/
def Rep0 (σ : XS) (x : Nat) (μ : MS) (n0 n1 n2 n4 n5 n6 : Nat) : Prop := 0 < x ∧ RCam σ μ n0 ∧ RClo σ μ n0 n1 ∧ RBeg σ x μ n0 n2 ∧ RSis σ μ n0 n2 ∧ RWin σ μ n4 ∧ RWal σ μ n5 ∧ RSto σ μ n6 ∧ RLaw σ μ ∧ RNam σ μ n6 ∧ RRul σ μ ∧ Lst σ 3 5 60 ∧ xk σ (x + 5) = 3 ∧ xk σ (x + 6) = 3 ∧ xk σ (x + 9) = 4

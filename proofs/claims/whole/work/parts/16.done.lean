/-! Three loops inside each other that fill 1,600 places: what is done so far. -/
def rB (f : Nat → Int32) (A : Nat → Bool) : Prop := ∀ k, k < 1600 → f k = b2i (A k)
def dn (p q r : Nat → Nat) (a b c k : Nat) : Prop := p k < a ∨ (p k = a ∧ (q k < b ∨ (q k = b ∧ r k < c)))
def Done (p q r : Nat → Nat) (F g : Nat → Int32) (a b c : Nat) : Prop := ∀ k, k < 1600 → dn p q r a b c k → g k = F k
theorem Done_0 {p q r : Nat → Nat} {F g : Nat → Int32} : Done p q r F g 0 0 0 := fun k _ h => by
  unfold dn at h
  omega
theorem Done_b {p q r : Nat → Nat} {F g : Nat → Int32} {a b n : Nat} (hr : ∀ k, k < 1600 → r k < n) (h : Done p q r F g a b n) : Done p q r F g a (b + 1) 0 := fun k hk hd => h k hk (by
  have := hr k hk
  unfold dn at hd ⊢
  omega)
theorem Done_a {p q r : Nat → Nat} {F g : Nat → Int32} {a n : Nat} (hq : ∀ k, k < 1600 → q k < n) (h : Done p q r F g a n 0) : Done p q r F g (a + 1) 0 0 := fun k hk hd => h k hk (by
  have := hq k hk
  unfold dn at hd ⊢
  omega)
theorem Done_all {p q r : Nat → Nat} {F g : Nat → Int32} {n : Nat} (hp : ∀ k, k < 1600 → p k < n) (h : Done p q r F g n 0 0) : ∀ k, k < 1600 → g k = F k := fun k hk => h k hk (Or.inl (hp k hk))
theorem Done_put {p q r : Nat → Nat} {F g : Nat → Int32} {a b c i : Nat} {v : Int32} (h : Done p q r F g a b c) (hi : ∀ k, k < 1600 → p k = a → q k = b → r k = c → k = i) (hv : v = F i) : Done p q r F (upd g i v) a b (c + 1) := fun k hk hd => by
  by_cases e : k = i
  · rw [e, pk_us]
    exact hv
  · rw [pk_un e]
    refine h k hk ?_
    by_cases h3 : p k = a ∧ q k = b ∧ r k = c
    · exact absurd (hi k hk h3.1 h3.2.1 h3.2.2) e
    · unfold dn at hd ⊢
      omega
def zX (k : Nat) : Nat := k / 64 % 5
def zY (k : Nat) : Nat := k / 64 / 5
def zZ (k : Nat) : Nat := k % 64
def zS (k : Nat) : Nat := (k / 64 % 5 + 3 * (k / 64 / 5)) % 5
def zO (_ : Nat) : Nat := 0
def kRk (i : Nat) : Nat := ([0, 1, 19, 7, 13, 8, 24, 3, 10, 23, 2, 4, 18, 17, 21, 14, 9, 5, 6, 16, 20, 11, 22, 15, 12] : List Nat).getD i 0
def zR (k : Nat) : Nat := kRk (k / 64)
def zT (k : Nat) : Nat := (k % 64 + (64 - kOff (k / 64))) % 64
theorem zX_lt (k : Nat) (_ : k < 1600) : zX k < 5 := by unfold zX; omega
theorem zY_lt (k : Nat) (h : k < 1600) : zY k < 5 := by unfold zY; omega
theorem zZ_lt (k : Nat) (_ : k < 1600) : zZ k < 64 := by unfold zZ; omega
theorem zS_lt (k : Nat) (_ : k < 1600) : zS k < 5 := by unfold zS; omega
theorem zT_lt (k : Nat) (_ : k < 1600) : zT k < 64 := by unfold zT; omega
theorem zO_lt (k : Nat) (_ : k < 1600) : zO k < 1 := by unfold zO; omega
theorem kRk_lt : ∀ i, i < 25 → kRk i < 25 := by decide +kernel
theorem zR_lt (k : Nat) (h : k < 1600) : zR k < 25 := kRk_lt _ (by omega)
theorem kRk_lane : ∀ i, i < 25 → ∀ t, t < 24 → kRk i = t + 1 → i = kLane t := by decide +kernel
theorem kRk_0 : ∀ i, i < 25 → kRk i = 0 → i = 0 := by decide +kernel
theorem at_theta {A : Nat → Bool} {x y z : Nat} (hx : x < 5) (hy : y < 5) (hz : z < 64) : kTheta A (kAt x y z) = (A (kAt x y z) ^^ (kPar A (x + 4) z ^^ kPar A (x + 1) ((z + 63) % 64))) := by
  unfold kTheta
  rw [show kAt x y z / 64 % 5 = x by unfold kAt; omega, show kAt x y z % 64 = z by unfold kAt; omega]
theorem ix_theta {x y z k : Nat} (hx : x < 5) (hy : y < 5) (hz : z < 64) (hk : k < 1600) (h1 : zX k = x) (h2 : zZ k = z) (h3 : zY k = y) : k = kAt x y z := by
  unfold zX zZ zY at *
  unfold kAt
  omega
theorem at_chi {A : Nat → Bool} {x y z : Nat} (hx : x < 5) (hy : y < 5) (hz : z < 64) : kChi A (kAt x y z) = (A (kAt x y z) ^^ ((!A (kAt (x + 1) y z)) && A (kAt (x + 2) y z))) := by
  unfold kChi
  rw [show kAt x y z / 64 % 5 = x by unfold kAt; omega, show kAt x y z % 64 = z by unfold kAt; omega, show kAt x y z / 64 / 5 = y by unfold kAt; omega]
theorem pi_a : ∀ x, x < 5 → ∀ y, y < 5 → (y + 3 * ((2 * x + 3 * y) % 5)) % 5 = x := by decide +kernel
theorem pi_b : ∀ y, y < 5 → ∀ w, w < 5 → (2 * ((y + 3 * w) % 5) + 3 * y) % 5 = w := by decide +kernel
theorem at_pi {A : Nat → Bool} {x y z : Nat} (hx : x < 5) (hy : y < 5) (hz : z < 64) : kPi A (kAt y (2 * x + 3 * y) z) = A (kAt x y z) := by
  have h := pi_a x hx y hy
  have hm : (2 * x + 3 * y) % 5 < 5 := Nat.mod_lt _ (by decide)
  unfold kPi kSrc kAt
  generalize (2 * x + 3 * y) % 5 = w at h hm ⊢
  rw [show (64 * (5 * w + y % 5) + z) / 64 = 5 * w + y by omega, show (64 * (5 * w + y % 5) + z) % 64 = z by omega, show (5 * w + y) % 5 = y by omega, show (5 * w + y) / 5 = w by omega, h, show y % 5 = y by omega, show x % 5 = x by omega]
theorem ix_pi {x y z k : Nat} (hx : x < 5) (hy : y < 5) (hz : z < 64) (hk : k < 1600) (h1 : zS k = x) (h2 : zX k = y) (h3 : zZ k = z) : k = kAt y (2 * x + 3 * y) z := by
  unfold zS zX zZ at *
  have h := pi_b y hy (k / 64 / 5) (by omega)
  rw [h2] at h1
  rw [h1] at h
  unfold kAt
  rw [h]
  omega
theorem at_rho0 {A : Nat → Bool} {z : Nat} (hz : z < 64) : kRho A z = A z := by
  unfold kRho
  rw [show z / 64 = 0 by omega, show kOff 0 = 0 from rfl]
  congr 1
  omega
theorem ix_rho0 {z k : Nat} (hk : k < 1600) (h1 : zR k = 0) (h3 : zT k = z) : k = z := by
  unfold zR at h1
  have h := kRk_0 (k / 64) (by omega) h1
  unfold zT at h3
  rw [h, show kOff 0 = 0 from rfl] at h3
  omega
theorem kAt_pos (t z : Nat) (hz : z < 64) : kAt (kPos t).1 (kPos t).2 z = 64 * kLane t + z := by
  have h := kPos_lt t
  unfold kAt kLane
  omega
theorem at_rho {A : Nat → Bool} {t z : Nat} (ht : t < 24) (hz : z < 64) : kRho A (kAt (kPos t).1 (kPos t).2 ((z + (t + 1) * (t + 2) / 2) % 64)) = A (kAt (kPos t).1 (kPos t).2 z) := by
  have h := kLane_off t ht
  rw [kAt_pos t _ (Nat.mod_lt _ (by decide)), kAt_pos t z hz]
  unfold kRho
  generalize (t + 1) * (t + 2) / 2 = n at h ⊢
  rw [show (64 * kLane t + (z + n) % 64) / 64 = kLane t by omega, h]
  congr 1
  omega
theorem ix_rho {t z k : Nat} (ht : t < 24) (hz : z < 64) (hk : k < 1600) (h1 : zR k = t + 1) (h3 : zT k = z) : k = kAt (kPos t).1 (kPos t).2 ((z + (t + 1) * (t + 2) / 2) % 64) := by
  unfold zR at h1
  have h := kRk_lane (k / 64) (by omega) t ht h1
  have ho := kLane_off t ht
  rw [kAt_pos t _ (Nat.mod_lt _ (by decide))]
  unfold zT at h3
  rw [h, ho] at h3
  generalize (t + 1) * (t + 2) / 2 = n at h3 ⊢
  omega

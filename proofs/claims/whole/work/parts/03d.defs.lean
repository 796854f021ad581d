/-! the pure words of the document's coder -/
/-- a row with values written from a place on -/
def fw (f : Nat → Int) (n : Nat) (g : Nat → Int) : Nat → (Nat → Int)
  | 0 => f
  | k + 1 => va_up (fw f n g k) (n + k) (g k)
theorem fw_in (f : Nat → Int) (n : Nat) (g : Nat → Int) : ∀ (k i : Nat), i < k → fw f n g k (n + i) = g i
  | 0, i, h => by omega
  | k + 1, i, h => by
    simp only [fw]
    by_cases e : i = k
    · subst e; exact up_self _ _ _
    · rw [up_ne _ _ (by omega)]; exact fw_in f n g k i (by omega)
theorem fw_out (f : Nat → Int) (n : Nat) (g : Nat → Int) : ∀ (k j : Nat), (j < n ∨ n + k ≤ j) → fw f n g k j = f j
  | 0, j, h => rfl
  | k + 1, j, h => by
    simp only [fw]
    rw [up_ne _ _ (by omega)]
    exact fw_out f n g k j (by omega)
/-- how many of the places a, .., a + k - 1 hold s -/
def ct (tx : Nat → Int) (a s : Nat) : Nat → Nat
  | 0 => 0
  | k + 1 => ct tx a s k + (if tx (a + k) = (s : Int) then 1 else 0)
theorem ct_le (tx : Nat → Int) (a s : Nat) : ∀ k, ct tx a s k ≤ k
  | 0 => Nat.le_refl _
  | k + 1 => by
    have := ct_le tx a s k
    simp only [ct]
    split <;> omega
/-- the counts above 0 of the last r symbols of 16, in order -/
def posl (c : Nat → Nat) : Nat → List Nat
  | 0 => []
  | r + 1 => if c (15 - r) = 0 then posl c r else c (15 - r) :: posl c r
/-- how many of the first symbols are counted -/
def knd (c : Nat → Nat) : Nat → Nat
  | 0 => 0
  | k + 1 => knd c k + (if c k = 0 then 0 else 1)
theorem knd_le (c : Nat → Nat) : ∀ k, knd c k ≤ k
  | 0 => Nat.le_refl _
  | k + 1 => by
    have := knd_le c k
    simp only [knd]
    split <;> omega
/-- the cost of a block with these counts; 1000000 or more if it has no code -/
def bk (L hd pr : Nat) (c : Nat → Nat) : Nat := hd + pg_dp L (posl c 16) (2 ^ L) + pr * knd c 16
theorem pg_best_step (L w room : Nat) (g : Nat → Nat) {l : Nat} (h : 1 ≤ l) : pg_best L w room g l = min (pg_best L w room g (l - 1)) (if 2 ^ (L - l) ≤ room then w * l + g (room - 2 ^ (L - l)) else 1000000) := by
  obtain ⟨k, rfl⟩ : ∃ k, l = k + 1 := ⟨l - 1, by omega⟩
  rfl
/-- one length more is tried -/
theorem sl_step {bst L w room l : Nat} {g : Nat → Nat} {cw z x : Int} (hb : bst = pg_best L w room g (l - 1)) (hl : 1 ≤ l) (hcw : cw = (w : Int)) (hx : x = (room : Int) - ((2 ^ (L - l) : Nat) : Int)) (hz : (x < 0 ∧ z = 1000000) ∨ (0 ≤ x ∧ z = ((g x.toNat : Nat) : Int))) :
    min (bst : Int) (cw * (l : Int) + z) = ((pg_best L w room g l : Nat) : Int) := by
  have hc := pg_best_cap L w room g (l - 1)
  rw [pg_best_step L w room g hl, ← hb]
  rw [← hb] at hc
  subst hcw
  have hm : (w : Int) * (l : Int) = ((w * l : Nat) : Int) := (Int.natCast_mul w l).symm
  rw [hm]
  rcases hz with ⟨h1, h2⟩ | ⟨h1, h2⟩
  · rw [if_neg (by omega), h2]
    omega
  · rw [if_pos (by omega), h2, show x.toNat = room - 2 ^ (L - l) by omega]
    omega
theorem pow_le64 {L k : Nat} (h : L ≤ 6) (hk : k ≤ L) : 1 ≤ 2 ^ k ∧ 2 ^ k ≤ 64 := by
  have h1 : 0 < 2 ^ k := Nat.pow_pos (by decide)
  have h2 : 2 ^ k ≤ 2 ^ 6 := Nat.pow_le_pow_right (by decide) (by omega)
  omega
theorem mul_le480 {a : Int} {l : Nat} (h : 0 ≤ a ∧ a ≤ 80) (hl : l ≤ 6) : 0 ≤ a * (l : Int) ∧ a * (l : Int) ≤ 480 := by
  refine ⟨Int.mul_nonneg h.1 (by omega), ?_⟩
  have := Int.mul_le_mul h.2 (show (l : Int) ≤ 6 by omega) (by omega) (by omega)
  omega
theorem posl_step (c : Nat → Nat) {q : Nat} (h : 1 ≤ q) (h2 : q ≤ 16) : posl c (17 - q) = if c (q - 1) = 0 then posl c (16 - q) else c (q - 1) :: posl c (16 - q) := by
  rw [show 17 - q = (16 - q) + 1 by omega]
  simp only [posl]
  rw [show 15 - (16 - q) = q - 1 by omega]

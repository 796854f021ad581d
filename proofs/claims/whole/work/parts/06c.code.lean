/-! the code finder's steps, the blocks of places: pure -/
theorem fr_step {bst L w room l : Nat} {g : Nat → Nat} {z x : Int} (hb : bst = pg_best L w room g (l - 1)) (hl : 1 ≤ l) (hx : x = (room : Int) - ((2 ^ (L - l) : Nat) : Int)) (hz : (x < 0 ∧ z = 1000000) ∨ (0 ≤ x ∧ z = (w : Int) * (l : Int) + ((g x.toNat : Nat) : Int))) :
    min (bst : Int) z = ((pg_best L w room g l : Nat) : Int) := by
  rw [pg_best_step L w room g hl, ← hb]
  have hm : (w : Int) * (l : Int) = ((w * l : Nat) : Int) := (Int.natCast_mul w l).symm
  rcases hz with ⟨h1, h2⟩ | ⟨h1, h2⟩
  · rw [if_neg (by omega), h2]
    omega
  · rw [if_pos (by omega), h2, hm, show x.toNat = room - 2 ^ (L - l) by omega]
    omega
theorem fit_iff2 {L w room j : Nat} {ws : List Nat} {z1 z2 x : Int} (hx : x = (room : Int) - ((2 ^ (L - j) : Nat) : Int)) (h1 : (x < 0 ∧ z1 = 1000000) ∨ (0 ≤ x ∧ z1 = (w : Int) * (j : Int) + ((pg_dp L ws x.toNat : Nat) : Int))) (h2 : z2 = ((pg_dp L (w :: ws) room : Nat) : Int)) (hf : pg_dp L (w :: ws) room < 1000000) : z1 = z2 ↔ pg_fit L w room ws j = true := by
  have hm : (w : Int) * (j : Int) = ((w * j : Nat) : Int) := (Int.natCast_mul w j).symm
  rw [h2]
  simp only [pg_fit, decide_eq_true_eq]
  rcases h1 with ⟨h1, h3⟩ | ⟨h1, h3⟩
  · rw [h3]
    constructor
    · intro q; omega
    · intro q; omega
  · rw [h3, hm, show x.toNat = room - 2 ^ (L - j) by omega]
    constructor
    · intro q; exact ⟨by omega, by omega⟩
    · intro q; omega
theorem posl_len_le (c : Nat → Nat) : ∀ r, (posl c r).length ≤ r
  | 0 => by simp [posl]
  | r + 1 => by
    have := posl_len_le c r
    rw [posl]
    split
    · omega
    · rw [List.length_cons]; omega
/-- the block of a place -/
def bof (tx : Nat → Int) (n L hd pr gr : Nat) : Nat → Nat
  | 0 => 0
  | k + 1 => if k + 1 = ps tx n L hd pr gr (bof tx n L hd pr gr k + 1) then bof tx n L hd pr gr k + 1 else bof tx n L hd pr gr k
theorem bof_ok {tx : Nat → Int} {n L hd pr gr : Nat} (hn : n ≤ 80) (hL : 1 ≤ L) (hh : hd ≤ 200) (hp : pr ≤ 20) (hg : 1 ≤ gr) (htx : ∀ j, j < n → 0 ≤ tx j ∧ tx j ≤ 15) :
    ∀ k, k < n → bof tx n L hd pr gr k < nbk tx n L hd pr gr ∧ ps tx n L hd pr gr (bof tx n L hd pr gr k) ≤ k ∧ k < ps tx n L hd pr gr (bof tx n L hd pr gr k + 1)
  | 0, h => by
    have h1 : 0 < nbk tx n L hd pr gr := ((ps_ok hn hL hh hp hg htx 0 (Nat.zero_le _)).2.2).mpr (by simpa [ps] using h)
    have h2 := ps_step hn hL hh hp hg htx h1
    simp only [bof]
    exact ⟨h1, by simp [ps], by have := h2.1; simp only [ps] at this ⊢; omega⟩
  | k + 1, h => by
    obtain ⟨h1, h2, h3⟩ := bof_ok hn hL hh hp hg htx k (by omega)
    rw [bof]
    by_cases e : k + 1 = ps tx n L hd pr gr (bof tx n L hd pr gr k + 1)
    · rw [if_pos e]
      have h4 : bof tx n L hd pr gr k + 1 < nbk tx n L hd pr gr := ((ps_ok hn hL hh hp hg htx (bof tx n L hd pr gr k + 1) (by omega)).2.2).mpr (by omega)
      have h5 := ps_step hn hL hh hp hg htx h4
      exact ⟨h4, by omega, by omega⟩
    · rw [if_neg e]
      exact ⟨h1, by omega, by omega⟩
theorem ps_mono {tx : Nat → Int} {n L hd pr gr : Nat} (hn : n ≤ 80) (hL : 1 ≤ L) (hh : hd ≤ 200) (hp : pr ≤ 20) (hg : 1 ≤ gr) (htx : ∀ j, j < n → 0 ≤ tx j ∧ tx j ≤ 15) :
    ∀ d i, i + d ≤ nbk tx n L hd pr gr → ps tx n L hd pr gr i + d ≤ ps tx n L hd pr gr (i + d)
  | 0, i, _ => Nat.le_refl _
  | d + 1, i, h => by
    have h1 := ps_mono hn hL hh hp hg htx d i (by omega)
    have h2 := ps_step hn hL hh hp hg htx (i := i + d) (by omega)
    rw [show i + (d + 1) = i + d + 1 by omega]
    omega
theorem bof_uni {tx : Nat → Int} {n L hd pr gr : Nat} (hn : n ≤ 80) (hL : 1 ≤ L) (hh : hd ≤ 200) (hp : pr ≤ 20) (hg : 1 ≤ gr) (htx : ∀ j, j < n → 0 ≤ tx j ∧ tx j ≤ 15) {j k : Nat} (hj : j < nbk tx n L hd pr gr) (h1 : ps tx n L hd pr gr j ≤ k) (h2 : k < ps tx n L hd pr gr (j + 1)) : bof tx n L hd pr gr k = j := by
  have hkn : k < n := by
    have := ps_step hn hL hh hp hg htx hj
    omega
  obtain ⟨q1, q2, q3⟩ := bof_ok hn hL hh hp hg htx k hkn
  rcases Nat.lt_trichotomy (bof tx n L hd pr gr k) j with h | h | h
  · have h3 := ps_mono hn hL hh hp hg htx (j - (bof tx n L hd pr gr k + 1)) (bof tx n L hd pr gr k + 1) (by omega)
    rw [show bof tx n L hd pr gr k + 1 + (j - (bof tx n L hd pr gr k + 1)) = j by omega] at h3
    omega
  · exact h
  · have h3 := ps_mono hn hL hh hp hg htx (bof tx n L hd pr gr k - (j + 1)) (j + 1) (by omega)
    rw [show j + 1 + (bof tx n L hd pr gr k - (j + 1)) = bof tx n L hd pr gr k by omega] at h3
    omega
theorem posl_mono (c : Nat → Nat) : ∀ (a b : Nat), a ≤ b → (posl c a).length ≤ (posl c b).length := by
  intro a b
  induction b with
  | zero => intro h; rw [show a = 0 by omega]; exact Nat.le_refl _
  | succ b ih =>
    intro h
    by_cases e : a = b + 1
    · rw [e]; exact Nat.le_refl _
    · have h1 := ih (by omega)
      refine Nat.le_trans h1 ?_
      rw [posl]
      split
      · exact Nat.le_refl _
      · rw [List.length_cons]; omega

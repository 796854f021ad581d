/-! splitting, codes, words: pure -/
def cta (tx : Nat → Int) (a b : Nat) : Nat → Nat := fun s => ct tx a s (b - a)
def bkc (tx : Nat → Int) (L hd pr a b : Nat) : Nat := bk L hd pr (cta tx a b)
/-- the best end among the first k, by cost, then by blocks, then the longest -/
def sp (co BC BB : Nat → Nat) (a : Nat) : Nat → Nat × Nat × Nat
  | 0 => (1000000, 80, a + 1)
  | k + 1 => if co (a + k + 1) + BC (a + k + 1) < 1000000 ∧ (co (a + k + 1) + BC (a + k + 1) < (sp co BC BB a k).1 ∨ (co (a + k + 1) + BC (a + k + 1) = (sp co BC BB a k).1 ∧ 1 + BB (a + k + 1) ≤ (sp co BC BB a k).2.1)) then (co (a + k + 1) + BC (a + k + 1), 1 + BB (a + k + 1), a + k + 1) else sp co BC BB a k
def tb (tx : Nat → Int) (n L hd pr gr : Nat) : Nat → (Nat → Nat × Nat × Nat)
  | 0 => fun _ => (0, 0, 0)
  | i + 1 => fun a => if a = n - 1 - i ∧ i < n then sp (fun b => bkc tx L hd pr a b) (fun b => (tb tx n L hd pr gr i b).1) (fun b => (tb tx n L hd pr gr i b).2.1) a (min (n - a) gr) else tb tx n L hd pr gr i a
/-- cost, blocks and end of the best split from a place on -/
def bs (tx : Nat → Int) (n L hd pr gr a : Nat) : Nat × Nat × Nat := tb tx n L hd pr gr n a
theorem sp_congr {co BC BB BC' BB' : Nat → Nat} {a : Nat} : ∀ k, (∀ b, a < b → b ≤ a + k → BC b = BC' b ∧ BB b = BB' b) → sp co BC BB a k = sp co BC' BB' a k
  | 0, _ => rfl
  | k + 1, h => by
    have h1 := sp_congr (co := co) k (fun b h1 h2 => h b h1 (by omega))
    have h2 := h (a + k + 1) (by omega) (by omega)
    simp only [sp, h1, h2.1, h2.2]
theorem tb_keep (tx : Nat → Int) (n L hd pr gr : Nat) {a : Nat} : ∀ (d i : Nat), n ≤ a + i → tb tx n L hd pr gr (i + d) a = tb tx n L hd pr gr i a
  | 0, i, _ => rfl
  | d + 1, i, h => by
    rw [show i + (d + 1) = (i + d) + 1 by omega, tb]
    dsimp only
    rw [if_neg (by omega)]
    exact tb_keep tx n L hd pr gr d i h
theorem tb_bs (tx : Nat → Int) (n L hd pr gr : Nat) {a i : Nat} (h : n ≤ a + i) (hi : i ≤ n) : tb tx n L hd pr gr i a = bs tx n L hd pr gr a := by
  have := tb_keep tx n L hd pr gr (a := a) (n - i) i h
  rw [show i + (n - i) = n by omega] at this
  exact this.symm
theorem bs_end (tx : Nat → Int) (n L hd pr gr : Nat) {a : Nat} (h : n ≤ a) : bs tx n L hd pr gr a = (0, 0, 0) := by
  rw [← tb_bs tx n L hd pr gr (i := 0) (by omega) (by omega)]
  rfl
/-- the places' own equation -/
theorem bs_eq (tx : Nat → Int) (n L hd pr gr : Nat) {a : Nat} (h : a < n) : bs tx n L hd pr gr a = sp (fun b => bkc tx L hd pr a b) (fun b => (bs tx n L hd pr gr b).1) (fun b => (bs tx n L hd pr gr b).2.1) a (min (n - a) gr) := by
  rw [← tb_bs tx n L hd pr gr (a := a) (i := (n - 1 - a) + 1) (by omega) (by omega), tb]
  dsimp only
  rw [if_pos (by omega)]
  exact sp_congr _ (fun b h1 h2 => by
    have : tb tx n L hd pr gr (n - 1 - a) b = bs tx n L hd pr gr b := tb_bs tx n L hd pr gr (by omega) (by omega)
    simp only [this]; exact ⟨trivial, trivial⟩)
theorem sp_mono {co BC BB : Nat → Nat} {a : Nat} : ∀ k, (sp co BC BB a (k + 1)).1 ≤ (sp co BC BB a k).1 := by
  intro k
  simp only [sp]
  split
  · rename_i h; simp only; omega
  · exact Nat.le_refl _
theorem sp_le {co BC BB : Nat → Nat} {a k : Nat} (hk : 1 ≤ k) : (sp co BC BB a k).1 ≤ (sp co BC BB a 1).1 := by
  induction k with
  | zero => omega
  | succ k ih =>
    by_cases e : k = 0
    · subst e; exact Nat.le_refl _
    · exact Nat.le_trans (sp_mono k) (ih (by omega))
theorem sp_one {co BC BB : Nat → Nat} {a : Nat} (h : co (a + 1) + BC (a + 1) < 1000000) : sp co BC BB a 1 = (co (a + 1) + BC (a + 1), 1 + BB (a + 1), a + 1) := by
  rw [sp]
  exact if_pos ⟨h, Or.inl h⟩
/-- once a first end is taken: the end is one of those tried, and its cost and blocks are its own -/
theorem sp_att {co BC BB : Nat → Nat} {a : Nat} (h1 : co (a + 1) + BC (a + 1) < 1000000) : ∀ k, 1 ≤ k → a < (sp co BC BB a k).2.2 ∧ (sp co BC BB a k).2.2 ≤ a + k ∧ (sp co BC BB a k).1 = co (sp co BC BB a k).2.2 + BC (sp co BC BB a k).2.2 ∧ (sp co BC BB a k).2.1 = 1 + BB (sp co BC BB a k).2.2 ∧ (sp co BC BB a k).1 < 1000000 := by
  intro k
  induction k with
  | zero => intro h; omega
  | succ k ih =>
    intro _
    simp only [sp]
    split
    · rename_i h; exact ⟨by simp only; omega, by simp only; omega, rfl, rfl, h.1⟩
    · rename_i h
      by_cases e : k = 0
      · subst e
        exact absurd ⟨h1, Or.inl (by simpa [sp] using h1)⟩ h
      · have := ih (by omega)
        exact ⟨this.1, by omega, this.2.2⟩
theorem ct_pos_le (tx : Nat → Int) (a : Nat) : ∀ k s, ct tx a s k ≤ k := fun k s => ct_le tx a s k
theorem posl_zero {c : Nat → Nat} : ∀ r, (∀ s, 16 - r ≤ s → s < 16 → c s = 0) → r ≤ 16 → posl c r = []
  | 0, _, _ => rfl
  | r + 1, h, hr => by
    rw [posl, if_pos (h (15 - r) (by omega) (by omega))]
    exact posl_zero r (fun s h1 h2 => h s (by omega) h2) (by omega)
theorem posl_one {c : Nat → Nat} {t : Nat} (ht : t < 16) (h1 : c t ≠ 0) (h2 : ∀ s, s < 16 → s ≠ t → c s = 0) : ∀ r, r ≤ 16 → posl c r = if 16 - r ≤ t then [c t] else []
  | 0, _ => by rw [if_neg (by omega)]; rfl
  | r + 1, hr => by
    have ih := posl_one ht h1 h2 r (by omega)
    rw [posl]
    by_cases e : 15 - r = t
    · rw [e, if_neg h1, if_pos (by omega), ih, if_neg (by omega)]
    · rw [if_pos (h2 _ (by omega) e), ih]
      by_cases e2 : 16 - r ≤ t
      · rw [if_pos e2, if_pos (by omega)]
      · rw [if_neg e2, if_neg (by omega)]
theorem knd_one {c : Nat → Nat} {t : Nat} (h1 : c t ≠ 0) (h2 : ∀ s, s < 16 → s ≠ t → c s = 0) : ∀ k, k ≤ 16 → knd c k = if t < k then 1 else 0
  | 0, _ => by simp [knd]
  | k + 1, hk => by
    have ih := knd_one h1 h2 k (by omega)
    rw [knd, ih]
    by_cases e : k = t
    · subst e; rw [if_neg (by omega), if_neg h1, if_pos (by omega)]
    · rw [if_pos (h2 k (by omega) e)]
      by_cases e2 : t < k
      · rw [if_pos e2, if_pos (by omega)]
      · rw [if_neg e2, if_neg (by omega)]
theorem pg_dp_single {L w : Nat} (hL : 1 ≤ L) : pg_dp L [w] (2 ^ L) ≤ w := by
  have h := pg_best_le (L := L) (w := w) (room := 2 ^ L) (g := pg_dp L []) L 1 (by omega) hL (Nat.pow_le_pow_right (by decide) (by omega))
  simp only [pg_dp] at h ⊢
  omega
/-- a block with one place costs a header, a symbol and a bit -/
theorem bkc_one {tx : Nat → Int} {L hd pr a : Nat} (hL : 1 ≤ L) (h : 0 ≤ tx a ∧ tx a ≤ 15) : bkc tx L hd pr a (a + 1) ≤ hd + pr + 1 := by
  have hc : ∀ s, cta tx a (a + 1) s = if tx a = (s : Int) then 1 else 0 := by
    intro s
    simp only [cta, show a + 1 - a = 1 by omega, ct]
    simp
  have h1 : cta tx a (a + 1) (tx a).toNat = 1 := by rw [hc, if_pos (by omega)]
  have h2 : ∀ s, s < 16 → s ≠ (tx a).toNat → cta tx a (a + 1) s = 0 := fun s _ hs => by rw [hc, if_neg (by omega)]
  have h3 := posl_one (c := cta tx a (a + 1)) (t := (tx a).toNat) (by omega) (by omega) h2 16 (by omega)
  have h4 := knd_one (c := cta tx a (a + 1)) (t := (tx a).toNat) (by omega) h2 16 (by omega)
  rw [if_pos (by omega)] at h3 h4
  simp only [bkc, bk, h3, h4, h1]
  have := pg_dp_single (L := L) (w := 1) hL
  omega
/-- what is known of every place of the best split -/
theorem bs_ok {tx : Nat → Int} {n L hd pr gr : Nat} (hn : n ≤ 80) (hL : 1 ≤ L) (hh : hd ≤ 200) (hp : pr ≤ 20) (hg : 1 ≤ gr) (htx : ∀ j, j < n → 0 ≤ tx j ∧ tx j ≤ 15) :
    ∀ d a, a + d = n → (bs tx n L hd pr gr a).1 ≤ d * 221 ∧ (bs tx n L hd pr gr a).2.1 ≤ d ∧ (1 ≤ d → a < (bs tx n L hd pr gr a).2.2 ∧ (bs tx n L hd pr gr a).2.2 ≤ n ∧ (bs tx n L hd pr gr a).2.2 ≤ a + gr ∧ bkc tx L hd pr a (bs tx n L hd pr gr a).2.2 < 1000000 ∧ (bs tx n L hd pr gr a).1 = bkc tx L hd pr a (bs tx n L hd pr gr a).2.2 + (bs tx n L hd pr gr (bs tx n L hd pr gr a).2.2).1 ∧ (bs tx n L hd pr gr a).2.1 = 1 + (bs tx n L hd pr gr (bs tx n L hd pr gr a).2.2).2.1) := by
  intro d
  induction d using Nat.strongRecOn with
  | ind d ih =>
    intro a ha
    by_cases hd0 : d = 0
    · subst hd0
      rw [bs_end tx n L hd pr gr (by omega)]
      exact ⟨by simp, by simp, fun h => by omega⟩
    · have e := bs_eq tx n L hd pr gr (a := a) (by omega)
      have h1 := (ih (d - 1) (by omega) (a + 1) (by omega)).1
      have hone := bkc_one (tx := tx) (L := L) (hd := hd) (pr := pr) hL (htx a (by omega))
      have hf : bkc tx L hd pr a (a + 1) + (bs tx n L hd pr gr (a + 1)).1 < 1000000 := by omega
      have q := sp_att (co := fun b => bkc tx L hd pr a b) (BC := fun b => (bs tx n L hd pr gr b).1) (BB := fun b => (bs tx n L hd pr gr b).2.1) (a := a) hf (min (n - a) gr) (by omega)
      have q2 := sp_le (co := fun b => bkc tx L hd pr a b) (BC := fun b => (bs tx n L hd pr gr b).1) (BB := fun b => (bs tx n L hd pr gr b).2.1) (a := a) (k := min (n - a) gr) (by omega)
      rw [← e] at q q2
      have q3 : (sp (fun b => bkc tx L hd pr a b) (fun b => (bs tx n L hd pr gr b).1) (fun b => (bs tx n L hd pr gr b).2.1) a 1).1 = bkc tx L hd pr a (a + 1) + (bs tx n L hd pr gr (a + 1)).1 := by
        rw [sp_one hf]
      rw [q3] at q2
      obtain ⟨g1, g2, g3, g4, g5⟩ := q
      have h2 := (ih (n - (bs tx n L hd pr gr a).2.2) (by omega) (bs tx n L hd pr gr a).2.2 (by omega)).2.1
      refine ⟨by omega, by omega, fun _ => ⟨g1, by omega, by omega, by omega, g3, g4⟩⟩
/-- where the blocks begin -/
def ps (tx : Nat → Int) (n L hd pr gr : Nat) : Nat → Nat
  | 0 => 0
  | i + 1 => if ps tx n L hd pr gr i < n then (bs tx n L hd pr gr (ps tx n L hd pr gr i)).2.2 else n
def nbk (tx : Nat → Int) (n L hd pr gr : Nat) : Nat := (bs tx n L hd pr gr 0).2.1
theorem ps_ok {tx : Nat → Int} {n L hd pr gr : Nat} (hn : n ≤ 80) (hL : 1 ≤ L) (hh : hd ≤ 200) (hp : pr ≤ 20) (hg : 1 ≤ gr) (htx : ∀ j, j < n → 0 ≤ tx j ∧ tx j ≤ 15) :
    ∀ i, i ≤ nbk tx n L hd pr gr → ps tx n L hd pr gr i ≤ n ∧ (bs tx n L hd pr gr (ps tx n L hd pr gr i)).2.1 + i = nbk tx n L hd pr gr ∧ (i < nbk tx n L hd pr gr ↔ ps tx n L hd pr gr i < n)
  | 0, _ => by
    have h := bs_ok hn hL hh hp hg htx n 0 (by omega)
    refine ⟨by simp [ps], by simp [ps, nbk], ?_⟩
    simp only [ps, nbk]
    constructor
    · intro h2
      rcases Nat.eq_zero_or_pos n with e | e
      · rw [bs_end tx n L hd pr gr (by omega)] at h2; simp at h2
      · exact e
    · intro h2
      have := (h.2.2 (by omega)).2.2.2.2.2
      omega
  | i + 1, hi => by
    obtain ⟨h1, h2, h3⟩ := ps_ok hn hL hh hp hg htx i (by omega)
    have h4 := h3.mp (by omega)
    have h5 := (bs_ok hn hL hh hp hg htx (n - ps tx n L hd pr gr i) (ps tx n L hd pr gr i) (by omega)).2.2 (by omega)
    have e : ps tx n L hd pr gr (i + 1) = (bs tx n L hd pr gr (ps tx n L hd pr gr i)).2.2 := by rw [ps, if_pos h4]
    rw [e]
    refine ⟨h5.2.1, by omega, ?_⟩
    constructor
    · intro h6
      rcases Nat.lt_or_ge (bs tx n L hd pr gr (ps tx n L hd pr gr i)).2.2 n with q | q
      · exact q
      · have h7 := bs_end tx n L hd pr gr q
        have h8 := h5.2.2.2.2.2
        rw [h7] at h8
        simp at h8
        omega
    · intro h6
      have h7 := (bs_ok hn hL hh hp hg htx (n - (bs tx n L hd pr gr (ps tx n L hd pr gr i)).2.2) (bs tx n L hd pr gr (ps tx n L hd pr gr i)).2.2 (by omega)).2.2 (by omega)
      have h8 := h5.2.2.2.2.2
      have h9 := h7.2.2.2.2.2
      omega
theorem nbk_le {tx : Nat → Int} {n L hd pr gr : Nat} (hn : n ≤ 80) (hL : 1 ≤ L) (hh : hd ≤ 200) (hp : pr ≤ 20) (hg : 1 ≤ gr) (htx : ∀ j, j < n → 0 ≤ tx j ∧ tx j ≤ 15) : nbk tx n L hd pr gr ≤ n := (bs_ok hn hL hh hp hg htx n 0 (by omega)).2.1
/-- a block of the plan: its bounds, and that it has a code -/
theorem ps_step {tx : Nat → Int} {n L hd pr gr : Nat} (hn : n ≤ 80) (hL : 1 ≤ L) (hh : hd ≤ 200) (hp : pr ≤ 20) (hg : 1 ≤ gr) (htx : ∀ j, j < n → 0 ≤ tx j ∧ tx j ≤ 15) {i : Nat} (hi : i < nbk tx n L hd pr gr) :
    ps tx n L hd pr gr i < ps tx n L hd pr gr (i + 1) ∧ ps tx n L hd pr gr (i + 1) ≤ n ∧ ps tx n L hd pr gr (i + 1) = (bs tx n L hd pr gr (ps tx n L hd pr gr i)).2.2 ∧ bkc tx L hd pr (ps tx n L hd pr gr i) (ps tx n L hd pr gr (i + 1)) < 1000000 := by
  obtain ⟨h1, h2, h3⟩ := ps_ok hn hL hh hp hg htx i (by omega)
  have h4 := h3.mp hi
  have h5 := (bs_ok hn hL hh hp hg htx (n - ps tx n L hd pr gr i) (ps tx n L hd pr gr i) (by omega)).2.2 (by omega)
  have e : ps tx n L hd pr gr (i + 1) = (bs tx n L hd pr gr (ps tx n L hd pr gr i)).2.2 := by rw [ps, if_pos h4]
  rw [e]
  exact ⟨h5.1, h5.2.1, rfl, h5.2.2.2.1⟩
theorem ps_last {tx : Nat → Int} {n L hd pr gr : Nat} (hn : n ≤ 80) (hL : 1 ≤ L) (hh : hd ≤ 200) (hp : pr ≤ 20) (hg : 1 ≤ gr) (htx : ∀ j, j < n → 0 ≤ tx j ∧ tx j ≤ 15) : ps tx n L hd pr gr (nbk tx n L hd pr gr) = n := by
  obtain ⟨h1, h2, h3⟩ := ps_ok hn hL hh hp hg htx (nbk tx n L hd pr gr) (Nat.le_refl _)
  rcases Nat.lt_or_ge (ps tx n L hd pr gr (nbk tx n L hd pr gr)) n with q | q
  · exact absurd (h3.mpr q) (by omega)
  · omega
/-- the code of a block -/
def pg_first (P : Nat → Bool) : Nat → Nat → Nat
  | k, 0 => k
  | k, f + 1 => if P k = true then k else pg_first P (k + 1) f
theorem pg_first_spec {P : Nat → Bool} : ∀ (f k : Nat), (∃ j, k ≤ j ∧ j ≤ k + f ∧ P j = true) → P (pg_first P k f) = true ∧ k ≤ pg_first P k f ∧ pg_first P k f ≤ k + f ∧ ∀ j, k ≤ j → j < pg_first P k f → P j = false
  | 0, k, ⟨j, h1, h2, h3⟩ => by
    obtain rfl : j = k := by omega
    exact ⟨h3, Nat.le_refl _, Nat.le_refl _, fun i h4 h5 => by simp [pg_first] at h5; omega⟩
  | f + 1, k, ⟨j, h1, h2, h3⟩ => by
    rw [pg_first]
    by_cases e : P k = true
    · rw [if_pos e]
      exact ⟨e, Nat.le_refl _, by omega, fun i h4 h5 => by omega⟩
    · rw [if_neg e]
      have hjk : j ≠ k := fun q => e (q ▸ h3)
      obtain ⟨q1, q2, q3, q4⟩ := pg_first_spec f (k + 1) ⟨j, by omega, by omega, h3⟩
      refine ⟨q1, by omega, by omega, fun i h4 h5 => ?_⟩
      by_cases e2 : i = k
      · subst e2; simpa using e
      · exact q4 i (by omega) h5
/-- a length does with the least sum -/
def pg_fit (L w room : Nat) (ws : List Nat) (j : Nat) : Bool := decide (2 ^ (L - j) ≤ room ∧ w * j + pg_dp L ws (room - 2 ^ (L - j)) = pg_dp L (w :: ws) room)
def pg_short (L w room : Nat) (ws : List Nat) : Nat := pg_first (pg_fit L w room ws) 1 (L - 1)
def pg_rm (c : Nat → Nat) (L : Nat) : Nat → Nat
  | 0 => 2 ^ L
  | s + 1 => if c s = 0 then pg_rm c L s else pg_rm c L s - 2 ^ (L - pg_short L (c s) (pg_rm c L s) (posl c (15 - s)))
def pg_cl (c : Nat → Nat) (L s : Nat) : Nat := if c s = 0 then 0 else pg_short L (c s) (pg_rm c L s) (posl c (15 - s))
theorem pg_short_ok {L w room : Nat} {ws : List Nat} (hL : 1 ≤ L) (h : pg_dp L (w :: ws) room < 1000000) :
    pg_fit L w room ws (pg_short L w room ws) = true ∧ 1 ≤ pg_short L w room ws ∧ pg_short L w room ws ≤ L ∧ ∀ j, 1 ≤ j → j < pg_short L w room ws → pg_fit L w room ws j = false := by
  have h2 := h
  rw [pg_dp] at h2
  obtain ⟨j, h3, h4, h5, h6⟩ := pg_best_att L h2
  obtain ⟨q1, q2, q3, q4⟩ := pg_first_spec (P := pg_fit L w room ws) (L - 1) 1 ⟨j, h3, by omega, by simp only [pg_fit, decide_eq_true_eq]; exact ⟨h5, by rw [pg_dp, h6]⟩⟩
  exact ⟨q1, q2, by simp only [pg_short]; omega, q4⟩
/-- all along the symbols there is room enough -/
theorem pg_rm_ok {c : Nat → Nat} {L : Nat} (hL : 1 ≤ L) (h : pg_dp L (posl c 16) (2 ^ L) < 1000000) : ∀ s, s ≤ 16 → pg_dp L (posl c (16 - s)) (pg_rm c L s) < 1000000 ∧ pg_rm c L s ≤ 2 ^ L
  | 0, _ => ⟨h, Nat.le_refl _⟩
  | s + 1, hs => by
    obtain ⟨h1, h3⟩ := pg_rm_ok hL h s (by omega)
    rw [show 16 - s = (15 - s) + 1 by omega, posl, show 15 - (15 - s) = s by omega] at h1
    rw [pg_rm, show 16 - (s + 1) = 15 - s by omega]
    by_cases e : c s = 0
    · rw [if_pos e] at h1 ⊢
      exact ⟨h1, h3⟩
    · rw [if_neg e] at h1 ⊢
      have q := (pg_short_ok hL h1).1
      simp only [pg_fit, decide_eq_true_eq] at q
      exact ⟨by omega, Nat.le_trans (Nat.sub_le _ _) h3⟩
theorem pg_cl_ok {c : Nat → Nat} {L s : Nat} (hL : 1 ≤ L) (h : pg_dp L (posl c 16) (2 ^ L) < 1000000) (hs : s < 16) (hc : c s ≠ 0) :
    pg_dp L (c s :: posl c (15 - s)) (pg_rm c L s) < 1000000 ∧ posl c (16 - s) = c s :: posl c (15 - s) ∧ pg_rm c L s ≤ 2 ^ L := by
  obtain ⟨h1, h3⟩ := pg_rm_ok hL h s (by omega)
  have e : posl c (16 - s) = c s :: posl c (15 - s) := by
    rw [show 16 - s = (15 - s) + 1 by omega, posl, show 15 - (15 - s) = s by omega, if_neg hc]
  rw [e] at h1
  exact ⟨h1, e, h3⟩
theorem pg_cl_le {c : Nat → Nat} {L s : Nat} (hL : 1 ≤ L) (h : pg_dp L (posl c 16) (2 ^ L) < 1000000) (hs : s < 16) : pg_cl c L s ≤ L ∧ (c s = 0 ↔ pg_cl c L s = 0) := by
  rw [pg_cl]
  by_cases e : c s = 0
  · rw [if_pos e]; exact ⟨by omega, ⟨fun _ => rfl, fun _ => e⟩⟩
  · rw [if_neg e]
    have q := pg_short_ok hL (pg_cl_ok hL h hs e).1
    exact ⟨q.2.2.1, ⟨fun q2 => absurd q2 e, fun q2 => by omega⟩⟩
/-- words -/
def ce (f : Nat → Int) (v : Int) : Nat → Nat
  | 0 => 0
  | k + 1 => ce f v k + (if f k = v then 1 else 0)
theorem ce_le (f : Nat → Int) (v : Int) : ∀ k, ce f v k ≤ k
  | 0 => Nat.le_refl _
  | k + 1 => by
    have := ce_le f v k
    simp only [ce]
    split <;> omega
def wb (f : Nat → Int) : Nat → Nat
  | 0 => 0
  | k + 1 => 2 * (wb f k + ce f ((k : Int) + 1) 16)
theorem wb_le (f : Nat → Int) : ∀ k, wb f k + 32 ≤ 32 * 2 ^ k
  | 0 => by simp [wb]
  | k + 1 => by
    have h1 := wb_le f k
    have h2 := ce_le f ((k : Int) + 1) 16
    rw [wb, Nat.pow_succ]
    omega
def wdv (f : Nat → Int) (s : Nat) : Int := if f s = 0 then -1 else ((wb f ((f s).toNat - 1) + ce f (f s) s : Nat) : Int)
/-- a row of words with those of the lengths below v, and of length v below s, written -/
def wset (f : Nat → Int) (b : Nat) (w : Nat → Int) (v s : Nat) : Nat → Int := fun i => if 16 * b ≤ i ∧ i < 16 * b + 16 ∧ 1 ≤ f (i - 16 * b) ∧ (f (i - 16 * b) < v ∨ (f (i - 16 * b) = v ∧ i - 16 * b < s)) then wdv f (i - 16 * b) else w i
theorem wset_0 (f : Nat → Int) (b : Nat) (w : Nat → Int) : wset f b w 1 0 = w := by
  funext i
  simp only [wset]
  rw [if_neg (by omega)]
theorem wset_up {f : Nat → Int} {b v s : Nat} {w : Nat → Int} (hs : s < 16) (hv : 1 ≤ v) (h : f s = (v : Int)) : va_up (wset f b w v s) (16 * b + s) (((wb f (v - 1) + ce f (v : Int) s : Nat) : Int)) = wset f b w v (s + 1) := by
  funext i
  by_cases e : i = 16 * b + s
  · subst e
    rw [up_self]
    simp only [wset]
    rw [show 16 * b + s - 16 * b = s by omega, if_pos (by omega), wdv, if_neg (by omega), h]
    rfl
  · rw [up_ne _ _ e]
    simp only [wset]
    by_cases g : 16 * b ≤ i ∧ i < 16 * b + 16 ∧ 1 ≤ f (i - 16 * b) ∧ (f (i - 16 * b) < v ∨ (f (i - 16 * b) = v ∧ i - 16 * b < s))
    · rw [if_pos g, if_pos (by omega)]
    · rw [if_neg g, if_neg (by omega)]
theorem wset_no {f : Nat → Int} {b v s : Nat} {w : Nat → Int} (h : f s ≠ (v : Int)) : wset f b w v s = wset f b w v (s + 1) := by
  funext i
  simp only [wset]
  by_cases g : 16 * b ≤ i ∧ i < 16 * b + 16 ∧ 1 ≤ f (i - 16 * b) ∧ (f (i - 16 * b) < v ∨ (f (i - 16 * b) = v ∧ i - 16 * b < s))
  · rw [if_pos g, if_pos (by omega)]
  · rw [if_neg g, if_neg (fun q => by
      by_cases e : i - 16 * b = s
      · rw [e] at q g; omega
      · omega)]
theorem wset_next (f : Nat → Int) (b v : Nat) (w : Nat → Int) : wset f b w v 16 = wset f b w (v + 1) 0 := by
  funext i
  simp only [wset]
  by_cases g : 16 * b ≤ i ∧ i < 16 * b + 16 ∧ 1 ≤ f (i - 16 * b) ∧ (f (i - 16 * b) < v ∨ (f (i - 16 * b) = v ∧ i - 16 * b < 16))
  · rw [if_pos g, if_pos (by omega)]
  · rw [if_neg g, if_neg (by omega)]
/-- the plan's cells: 16 a block -/
def pln (tx : Nat → Int) (n L hd pr gr : Nat) (x : Nat) : Int := ((pg_cl (cta tx (ps tx n L hd pr gr (x / 16)) (ps tx n L hd pr gr (x / 16 + 1))) L (x % 16) : Nat) : Int)
def pwd (tx : Nat → Int) (n L hd pr gr : Nat) (x : Nat) : Int := wdv (fun s => pln tx n L hd pr gr (16 * (x / 16) + s)) (x % 16)
theorem ct_step (tx : Nat → Int) (a s k : Nat) (h : a ≤ k) : ct tx a s (k + 1 - a) = ct tx a s (k - a) + (if tx k = (s : Int) then 1 else 0) := by
  rw [show k + 1 - a = (k - a) + 1 by omega, ct, show a + (k - a) = k by omega]
theorem cnt_up {tx cn : Nat → Int} {a k : Nat} (hak : a ≤ k) (ht : 0 ≤ tx k ∧ tx k ≤ 15) (h : ∀ s, s < 16 → cn s = ((ct tx a s (k - a) : Nat) : Int)) : ∀ s, s < 16 → va_up cn (tx k).toNat (cn (tx k).toNat + 1) s = ((ct tx a s (k + 1 - a) : Nat) : Int) := by
  intro s hs
  rw [ct_step tx a s k hak]
  by_cases e : s = (tx k).toNat
  · subst e
    rw [up_self, h _ hs, if_pos (by omega)]
    omega
  · rw [up_ne _ _ e, h s hs, if_neg (by omega)]
    omega
theorem knd_step (c : Nat → Nat) (pr k : Nat) : pr * knd c (k + 1) = pr * knd c k + (if c k = 0 then 0 else pr) := by
  rw [knd, Nat.mul_add]
  by_cases e : c k = 0
  · rw [if_pos e, if_pos e]; simp
  · rw [if_neg e, if_neg e]; simp
theorem bk_le (L hd pr : Nat) (c : Nat → Nat) (h1 : hd ≤ 200) (h2 : pr ≤ 20) : bk L hd pr c ≤ 1000520 := by
  have q1 := pg_dp_cap L (posl c 16) (2 ^ L)
  have q2 := knd_le c 16
  have q3 : pr * knd c 16 ≤ 20 * 16 := Nat.mul_le_mul h2 q2
  rw [bk]
  omega
theorem prk_le {pr : Nat} {c : Nat → Nat} {k : Nat} (h2 : pr ≤ 20) (hk : k ≤ 16) : pr * knd c k ≤ 320 := by
  have q2 := knd_le c k
  have q3 : pr * knd c k ≤ 20 * 16 := Nat.mul_le_mul h2 (by omega)
  omega
/-- the rows of a split under way at place a, k ends tried -/
def spI (tx : Nat → Int) (n L hd pr gr a k : Nat) (bc bb be : Nat → Int) : Prop :=
  bc a = (((sp (fun b => bkc tx L hd pr a b) (fun b => (bs tx n L hd pr gr b).1) (fun b => (bs tx n L hd pr gr b).2.1) a k).1 : Nat) : Int) ∧ (1 ≤ k → bb a = (((sp (fun b => bkc tx L hd pr a b) (fun b => (bs tx n L hd pr gr b).1) (fun b => (bs tx n L hd pr gr b).2.1) a k).2.1 : Nat) : Int) ∧ be a = (((sp (fun b => bkc tx L hd pr a b) (fun b => (bs tx n L hd pr gr b).1) (fun b => (bs tx n L hd pr gr b).2.1) a k).2.2 : Nat) : Int))
theorem spI_take {tx : Nat → Int} {n L hd pr gr a k : Nat} {bc bb be : Nat → Int} {su ma : Int} (h : spI tx n L hd pr gr a k bc bb be) (hs : su = ((bkc tx L hd pr a (a + k + 1) + (bs tx n L hd pr gr (a + k + 1)).1 : Nat) : Int)) (hm : ma = ((1 + (bs tx n L hd pr gr (a + k + 1)).2.1 : Nat) : Int)) (h1 : su < 1000000) (h2 : su < bc a ∨ (su = bc a ∧ ma ≤ bb a)) :
    spI tx n L hd pr gr a (k + 1) (va_up bc a su) (va_up bb a ma) (va_up be a ((a + k + 1 : Nat) : Int)) := by
  obtain ⟨q1, q2⟩ := h
  have hc : bkc tx L hd pr a (a + k + 1) + (bs tx n L hd pr gr (a + k + 1)).1 < 1000000 ∧ (bkc tx L hd pr a (a + k + 1) + (bs tx n L hd pr gr (a + k + 1)).1 < (sp (fun b => bkc tx L hd pr a b) (fun b => (bs tx n L hd pr gr b).1) (fun b => (bs tx n L hd pr gr b).2.1) a k).1 ∨ (bkc tx L hd pr a (a + k + 1) + (bs tx n L hd pr gr (a + k + 1)).1 = (sp (fun b => bkc tx L hd pr a b) (fun b => (bs tx n L hd pr gr b).1) (fun b => (bs tx n L hd pr gr b).2.1) a k).1 ∧ 1 + (bs tx n L hd pr gr (a + k + 1)).2.1 ≤ (sp (fun b => bkc tx L hd pr a b) (fun b => (bs tx n L hd pr gr b).1) (fun b => (bs tx n L hd pr gr b).2.1) a k).2.1)) := by
    refine ⟨by omega, ?_⟩
    rcases h2 with h2 | ⟨h2, h3⟩
    · exact Or.inl (by omega)
    · refine Or.inr ⟨by omega, ?_⟩
      by_cases e : k = 0
      · subst e
        simp only [sp] at q1 ⊢
        omega
      · have := (q2 (by omega)).1
        omega
  have e : sp (fun b => bkc tx L hd pr a b) (fun b => (bs tx n L hd pr gr b).1) (fun b => (bs tx n L hd pr gr b).2.1) a (k + 1) = (bkc tx L hd pr a (a + k + 1) + (bs tx n L hd pr gr (a + k + 1)).1, 1 + (bs tx n L hd pr gr (a + k + 1)).2.1, a + k + 1) := by
    rw [sp]
    exact if_pos hc
  simp only [spI, e, up_self]
  exact ⟨hs, fun _ => ⟨hm, trivial⟩⟩
theorem spI_skip {tx : Nat → Int} {n L hd pr gr a k : Nat} {bc bb be : Nat → Int} {su ma : Int} (h : spI tx n L hd pr gr a k bc bb be) (hs : su = ((bkc tx L hd pr a (a + k + 1) + (bs tx n L hd pr gr (a + k + 1)).1 : Nat) : Int)) (hm : ma = ((1 + (bs tx n L hd pr gr (a + k + 1)).2.1 : Nat) : Int)) (h1 : 1000000 ≤ su ∨ ¬ (su < bc a ∨ (su = bc a ∧ ma ≤ bb a))) (hf : bkc tx L hd pr a (a + 1) + (bs tx n L hd pr gr (a + 1)).1 < 1000000) :
    spI tx n L hd pr gr a (k + 1) bc bb be := by
  obtain ⟨q1, q2⟩ := h
  by_cases e0 : k = 0
  · subst e0
    simp only [sp] at q1
    simp only [Nat.add_zero] at hs
    omega
  · have q3 := q2 (by omega)
    have e : sp (fun b => bkc tx L hd pr a b) (fun b => (bs tx n L hd pr gr b).1) (fun b => (bs tx n L hd pr gr b).2.1) a (k + 1) = sp (fun b => bkc tx L hd pr a b) (fun b => (bs tx n L hd pr gr b).1) (fun b => (bs tx n L hd pr gr b).2.1) a k := by
      rw [sp]
      exact if_neg (by omega)
    simp only [spI, e]
    exact ⟨q1, fun _ => q3⟩
theorem sp_feas {tx : Nat → Int} {n L hd pr gr a : Nat} (hn : n ≤ 80) (hL : 1 ≤ L) (hh : hd ≤ 200) (hp : pr ≤ 20) (hg : 1 ≤ gr) (htx : ∀ j, j < n → 0 ≤ tx j ∧ tx j ≤ 15) (ha : a < n) : bkc tx L hd pr a (a + 1) + (bs tx n L hd pr gr (a + 1)).1 < 1000000 := by
  have h1 := bkc_one (tx := tx) (L := L) (hd := hd) (pr := pr) hL (htx a ha)
  have h2 := (bs_ok hn hL hh hp hg htx (n - (a + 1)) (a + 1) (by omega)).1
  omega
/-- the test of a length in the table -/
theorem fit_iff {L w room j : Nat} {ws : List Nat} {cw z1 z2 x : Int} (hj : 1 ≤ j) (hcw : cw = (w : Int)) (hx : x = (room : Int) - ((2 ^ (L - j) : Nat) : Int)) (h1 : (x < 0 ∧ z1 = 1000000) ∨ (0 ≤ x ∧ z1 = ((pg_dp L ws x.toNat : Nat) : Int))) (h2 : z2 = ((pg_dp L (w :: ws) room : Nat) : Int)) (hf : pg_dp L (w :: ws) room < 1000000) : cw * (j : Int) + z1 = z2 ↔ pg_fit L w room ws j = true := by
  subst hcw
  have hm : (w : Int) * (j : Int) = ((w * j : Nat) : Int) := (Int.natCast_mul w j).symm
  rw [hm, h2]
  simp only [pg_fit, decide_eq_true_eq]
  rcases h1 with ⟨h1, h3⟩ | ⟨h1, h3⟩
  · rw [h3]
    constructor
    · intro q; omega
    · intro q; omega
  · rw [h3, show x.toNat = room - 2 ^ (L - j) by omega]
    constructor
    · intro q; exact ⟨by omega, by omega⟩
    · intro q; omega
theorem ce_step (f : Nat → Int) (v : Int) (k : Nat) : ce f v (k + 1) = ce f v k + (if f k = v then 1 else 0) := rfl
theorem wb_step (f : Nat → Int) {v : Nat} (h : 1 ≤ v) : wb f (v + 1 - 1) = 2 * (wb f (v - 1) + ce f (v : Int) 16) := by
  rw [show v + 1 - 1 = (v - 1) + 1 by omega, wb, show ((v - 1 : Nat) : Int) + 1 = (v : Int) by omega]
theorem wb_le6 (f : Nat → Int) {k : Nat} (h : k ≤ 6) : wb f k ≤ 2016 := by
  have h1 := wb_le f k
  have h2 : 2 ^ k ≤ 2 ^ 6 := Nat.pow_le_pow_right (by decide) h
  omega
theorem sp_cap {co BC BB : Nat → Nat} {a : Nat} : ∀ k, (sp co BC BB a k).1 ≤ 1000000
  | 0 => Nat.le_refl _
  | k + 1 => Nat.le_trans (sp_mono k) (sp_cap k)
theorem sp_bl {co BC BB : Nat → Nat} {a : Nat} : ∀ k, (∀ b, a < b → b ≤ a + k → BB b ≤ 80) → (sp co BC BB a k).2.1 ≤ 81
  | 0, _ => by simp [sp]
  | k + 1, h => by
    have h1 := sp_bl (co := co) (BC := BC) (BB := BB) (a := a) k (fun b h1 h2 => h b h1 (by omega))
    have h2 := h (a + k + 1) (by omega) (by omega)
    simp only [sp]
    split
    · simp only; omega
    · exact h1
theorem spI_bc {tx : Nat → Int} {n L hd pr gr a k : Nat} {bc bb be : Nat → Int} (h : spI tx n L hd pr gr a k bc bb be) : 0 ≤ bc a ∧ bc a ≤ 1000000 := by
  have h1 := sp_cap (co := fun b => bkc tx L hd pr a b) (BC := fun b => (bs tx n L hd pr gr b).1) (BB := fun b => (bs tx n L hd pr gr b).2.1) (a := a) k
  have h2 := h.1
  omega
theorem spI_bb {tx : Nat → Int} {n L hd pr gr a k : Nat} {bc bb be : Nat → Int} (hn : n ≤ 80) (hL : 1 ≤ L) (hh : hd ≤ 200) (hp : pr ≤ 20) (hg : 1 ≤ gr) (htx : ∀ j, j < n → 0 ≤ tx j ∧ tx j ≤ 15) (hak : a + k ≤ n) (hk : 1 ≤ k) (h : spI tx n L hd pr gr a k bc bb be) : 0 ≤ bb a ∧ bb a ≤ 81 := by
  have h1 := sp_bl (co := fun b => bkc tx L hd pr a b) (BC := fun b => (bs tx n L hd pr gr b).1) (BB := fun b => (bs tx n L hd pr gr b).2.1) (a := a) k (fun b h2 h3 => by
    have := (bs_ok hn hL hh hp hg htx (n - b) b (by omega)).2.1
    omega)
  have h2 := (h.2 hk).1
  omega
theorem spI_0 {tx : Nat → Int} {n L hd pr gr a : Nat} {bc bb be : Nat → Int} (h : spI tx n L hd pr gr a 0 bc bb be) : bc a = 1000000 := by
  have := h.1
  simpa [sp] using this
theorem ce_congr {f g : Nat → Int} {v : Int} : ∀ k, (∀ s, s < k → f s = g s) → ce f v k = ce g v k
  | 0, _ => rfl
  | k + 1, h => by
    rw [ce, ce, ce_congr k (fun s hs => h s (by omega)), h k (by omega)]
theorem wb_congr {f g : Nat → Int} (h : ∀ s, s < 16 → f s = g s) : ∀ k, wb f k = wb g k
  | 0 => rfl
  | k + 1 => by rw [wb, wb, wb_congr h k, ce_congr 16 h]
theorem wdv_congr {f g : Nat → Int} (h : ∀ s, s < 16 → f s = g s) {j : Nat} (hj : j < 16) : wdv f j = wdv g j := by
  rw [wdv, wdv, h j hj, wb_congr h, ce_congr j (fun s hs => h s (by omega))]
theorem pln_at (tx : Nat → Int) (n L hd pr gr i j : Nat) (hj : j < 16) : pln tx n L hd pr gr (16 * i + j) = ((pg_cl (cta tx (ps tx n L hd pr gr i) (ps tx n L hd pr gr (i + 1))) L j : Nat) : Int) := by
  rw [pln, show (16 * i + j) / 16 = i by omega, show (16 * i + j) % 16 = j by omega]
theorem pwd_at (tx : Nat → Int) (n L hd pr gr i j : Nat) (hj : j < 16) : pwd tx n L hd pr gr (16 * i + j) = wdv (fun s => pln tx n L hd pr gr (16 * i + s)) j := by
  rw [pwd, show (16 * i + j) / 16 = i by omega, show (16 * i + j) % 16 = j by omega]
/-- the cells of one block more -/
theorem cells_step {tx : Nat → Int} {n L hd pr gr i : Nat} {ln wd : Nat → Int} (hL : 1 ≤ L) (hf : pg_dp L (posl (cta tx (ps tx n L hd pr gr i) (ps tx n L hd pr gr (i + 1))) 16) (2 ^ L) < 1000000)
    (h1 : ∀ x, x < 16 * i → ln x = pln tx n L hd pr gr x ∧ wd x = pwd tx n L hd pr gr x) (h2 : ∀ j, j < 16 → ln (16 * i + j) = ((pg_cl (cta tx (ps tx n L hd pr gr i) (ps tx n L hd pr gr (i + 1))) L j : Nat) : Int) ∧ wd (16 * i + j) = -1) :
    ∀ x, x < 16 * (i + 1) → ln x = pln tx n L hd pr gr x ∧ wset (fun s => ln (16 * i + s)) i wd (L + 1) 0 x = pwd tx n L hd pr gr x := by
  intro x hx
  by_cases e : x < 16 * i
  · refine ⟨(h1 x e).1, ?_⟩
    rw [wset, if_neg (by omega)]
    exact (h1 x e).2
  · obtain ⟨j, rfl⟩ : ∃ j, x = 16 * i + j := ⟨x - 16 * i, by omega⟩
    have hj : j < 16 := by omega
    have hl := pg_cl_le (c := cta tx (ps tx n L hd pr gr i) (ps tx n L hd pr gr (i + 1))) hL hf hj
    have hcg : ∀ s, s < 16 → (fun s => ln (16 * i + s)) s = (fun s => pln tx n L hd pr gr (16 * i + s)) s := fun s hs => by
      simp only
      rw [pln_at _ _ _ _ _ _ _ _ hs]
      exact (h2 s hs).1
    refine ⟨by rw [pln_at _ _ _ _ _ _ _ _ hj]; exact (h2 j hj).1, ?_⟩
    rw [pwd_at _ _ _ _ _ _ _ _ hj, ← wdv_congr hcg hj, wset, show 16 * i + j - 16 * i = j by omega]
    have h3 := (h2 j hj).1
    by_cases g : ln (16 * i + j) = 0
    · rw [if_neg (by omega), wdv, if_pos g]
      exact (h2 j hj).2
    · rw [if_pos (by omega)]

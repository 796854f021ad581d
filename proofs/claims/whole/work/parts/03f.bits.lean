/-! asking, writing and reading: pure -/
def slk (f : Nat → Int) (L : Nat) : Nat → Int
  | 0 => ((2 ^ L : Nat) : Int)
  | k + 1 => slk f L k - (if f k = 0 then 0 else ((2 ^ (L - (f k).toNat) : Nat) : Int))
theorem slk_rng (f : Nat → Int) {L : Nat} (hL : L ≤ 6) : ∀ k, k ≤ 16 → -1024 ≤ slk f L k ∧ slk f L k ≤ 64 ∧ -((64 * k : Nat) : Int) ≤ slk f L k
  | 0, _ => by
    have := pow_le64 hL (Nat.le_refl L)
    simp only [slk]
    omega
  | k + 1, hk => by
    have h := slk_rng f hL k (by omega)
    have h2 := pow_le64 (k := L - (f k).toNat) hL (by omega)
    simp only [slk]
    split <;> omega
theorem slk_congr {f g : Nat → Int} (L : Nat) : ∀ k, (∀ s, s < k → f s = g s) → slk f L k = slk g L k
  | 0, _ => rfl
  | k + 1, h => by rw [slk, slk, slk_congr L k (fun s hs => h s (by omega)), h k (by omega)]
/-- the first symbol from s on with length a and word b -/
def sof (f g : Nat → Int) (a b : Int) : Nat → Nat → Int
  | _, 0 => -1
  | s, k + 1 => if f s = a ∧ g s = b then (s : Int) else sof f g a b (s + 1) k
theorem sof_step (f g : Nat → Int) (a b : Int) {s : Nat} (h : s < 16) : sof f g a b s (16 - s) = if f s = a ∧ g s = b then (s : Int) else sof f g a b (s + 1) (16 - (s + 1)) := by
  rw [show 16 - s = (16 - (s + 1)) + 1 by omega, sof]
theorem sof_spec (f g : Nat → Int) (a b : Int) : ∀ (k s : Nat), sof f g a b s k = -1 ∨ ∃ j, s ≤ j ∧ j < s + k ∧ sof f g a b s k = (j : Int) ∧ f j = a ∧ g j = b
  | 0, s => Or.inl rfl
  | k + 1, s => by
    rw [sof]
    by_cases h : f s = a ∧ g s = b
    · rw [if_pos h]; exact Or.inr ⟨s, by omega, by omega, rfl, h.1, h.2⟩
    · rw [if_neg h]
      rcases sof_spec f g a b k (s + 1) with q | ⟨j, h1, h2, h3, h4⟩
      · exact Or.inl q
      · exact Or.inr ⟨j, by omega, by omega, h3, h4⟩
theorem sof_congr {f g f' g' : Nat → Int} (a b : Int) : ∀ (k s : Nat), (∀ j, s ≤ j → j < s + k → f j = f' j ∧ g j = g' j) → sof f g a b s k = sof f' g' a b s k
  | 0, _, _ => rfl
  | k + 1, s, h => by
    have h1 := h s (by omega) (by omega)
    rw [sof, sof, h1.1, h1.2, sof_congr a b k (s + 1) (fun j h2 h3 => h j (by omega) (by omega))]
/-- what a reader finds that looks at all bits at once -/
def lk (f g : Nat → Int) (L v : Nat) : Nat → Nat → Int
  | _, 0 => -1
  | j, k + 1 => if sof f g (j : Int) ((v / 2 ^ (L - j) : Nat) : Int) 0 16 = -1 then lk f g L v (j + 1) k else 16 * (j : Int) + sof f g (j : Int) ((v / 2 ^ (L - j) : Nat) : Int) 0 16
theorem lk_step (f g : Nat → Int) (L v : Nat) {j : Nat} (h : j ≤ L) : lk f g L v j (L + 1 - j) = if sof f g (j : Int) ((v / 2 ^ (L - j) : Nat) : Int) 0 16 = -1 then lk f g L v (j + 1) (L + 1 - (j + 1)) else 16 * (j : Int) + sof f g (j : Int) ((v / 2 ^ (L - j) : Nat) : Int) 0 16 := by
  rw [show L + 1 - j = (L + 1 - (j + 1)) + 1 by omega, lk]
theorem lk_congr {f g f' g' : Nat → Int} (L v : Nat) (h : ∀ j, j < 16 → f j = f' j ∧ g j = g' j) : ∀ (k j : Nat), lk f g L v j k = lk f' g' L v j k
  | 0, _ => rfl
  | k + 1, j => by
    rw [lk, lk, sof_congr (f := f) (g := g) (f' := f') (g' := g') _ _ 16 0 (fun i _ h2 => h i (by omega)), lk_congr L v h k (j + 1)]
/-- places that differ -/
def dfc (f g : Nat → Int) : Nat → Nat
  | 0 => 0
  | k + 1 => dfc f g k + (if f k = g k then 0 else 1)
theorem dfc_le (f g : Nat → Int) : ∀ k, dfc f g k ≤ k
  | 0 => Nat.le_refl _
  | k + 1 => by
    have := dfc_le f g k
    simp only [dfc]
    split <;> omega
theorem dfc_congr {f g g' : Nat → Int} : ∀ k, (∀ s, s < k → g s = g' s) → dfc f g k = dfc f g' k
  | 0, _ => rfl
  | k + 1, h => by rw [dfc, dfc, dfc_congr k (fun s hs => h s (by omega)), h k (by omega)]
/-- a list lies at the head of a row -/
def hB (f : Nat → Int) (w : List Int) : Prop := ∀ i, i < w.length → f i = w.getD i 0
theorem hB_nil (f : Nat → Int) : hB f [] := fun i h => by simp at h
theorem hB_push {f : Nat → Int} {w : List Int} {v : Int} {k : Nat} (hk : k = w.length) (h : hB f w) : hB (va_up f k v) (w ++ [v]) := by
  intro i hi
  subst hk
  simp only [List.length_append, List.length_singleton] at hi
  by_cases e : i = w.length
  · subst e
    rw [up_self, List.getD_eq_getElem?_getD, List.getElem?_append_right (Nat.le_refl _)]
    simp
  · rw [up_ne _ _ e, h i (by omega), List.getD_eq_getElem?_getD, List.getD_eq_getElem?_getD, List.getElem?_append_left (by omega)]
/-- the bits of a word, the highest first -/
def wbits (w : Nat) : Nat → List Int
  | 0 => []
  | k + 1 => ((w / 2 ^ k % 2 : Nat) : Int) :: wbits w k
theorem wbits_len (w : Nat) : ∀ k, (wbits w k).length = k
  | 0 => rfl
  | k + 1 => by simp [wbits, wbits_len w k]
def wl (ln wd tx : Nat → Int) (bo : Nat → Nat) : Nat → List Int
  | 0 => []
  | k + 1 => wl ln wd tx bo k ++ wbits (wd (16 * bo k + (tx k).toNat)).toNat (ln (16 * bo k + (tx k).toNat)).toNat
theorem wl_len {ln wd tx : Nat → Int} {bo : Nat → Nat} {n : Nat} (h : ∀ k, k < n → ln (16 * bo k + (tx k).toNat) ≤ 6) : ∀ k, k ≤ n → (wl ln wd tx bo k).length ≤ 6 * k
  | 0, _ => by simp [wl]
  | k + 1, hk => by
    have h1 := wl_len (wd := wd) h k (by omega)
    have h2 := h k (by omega)
    rw [wl, List.length_append, wbits_len]
    omega
theorem wl_congr {ln wd ln' wd' tx : Nat → Int} {bo : Nat → Nat} : ∀ k, (∀ i, i < k → ln (16 * bo i + (tx i).toNat) = ln' (16 * bo i + (tx i).toNat) ∧ wd (16 * bo i + (tx i).toNat) = wd' (16 * bo i + (tx i).toNat)) → wl ln wd tx bo k = wl ln' wd' tx bo k
  | 0, _ => rfl
  | k + 1, h => by
    have h1 := h k (by omega)
    rw [wl, wl, wl_congr k (fun i hi => h i (by omega)), h1.1, h1.2]
theorem wbits_01 (w : Nat) : ∀ k, ∀ x ∈ wbits w k, x = 0 ∨ x = 1
  | 0, x, h => by simp [wbits] at h
  | k + 1, x, h => by
    simp only [wbits, List.mem_cons] at h
    rcases h with h | h
    · rw [h]; omega
    · exact wbits_01 w k x h
theorem wl_01 (ln wd tx : Nat → Int) (bo : Nat → Nat) : ∀ k, ∀ x ∈ wl ln wd tx bo k, x = 0 ∨ x = 1
  | 0, x, h => by simp [wl] at h
  | k + 1, x, h => by
    rw [wl, List.mem_append] at h
    rcases h with h | h
    · exact wl_01 ln wd tx bo k x h
    · exact wbits_01 _ _ x h
/-- the sum of the lengths over the places -/
def sml (ln tx : Nat → Int) (bo : Nat → Nat) : Nat → Nat
  | 0 => 0
  | k + 1 => sml ln tx bo k + (ln (16 * bo k + (tx k).toNat)).toNat
theorem sml_le {ln tx : Nat → Int} {bo : Nat → Nat} {n : Nat} (h : ∀ k, k < n → ln (16 * bo k + (tx k).toNat) ≤ 6) : ∀ k, k ≤ n → sml ln tx bo k ≤ 6 * k
  | 0, _ => by simp [sml]
  | k + 1, hk => by
    have h1 := sml_le h k (by omega)
    have h2 := h k (by omega)
    rw [sml]
    omega
theorem sml_congr {ln ln' tx : Nat → Int} {bo : Nat → Nat} : ∀ k, (∀ i, i < k → ln (16 * bo i + (tx i).toNat) = ln' (16 * bo i + (tx i).toNat)) → sml ln tx bo k = sml ln' tx bo k
  | 0, _ => rfl
  | k + 1, h => by rw [sml, sml, sml_congr k (fun i hi => h i (by omega)), h k (by omega)]
/-- the next symbol from bit p on, j bits taken with value v: the symbol (or -1), and how many bits are taken -/
def rsy (B f g : Nat → Int) (bt p : Nat) : Nat → Int → Nat → Int × Nat
  | 0, _, j => (-1, j)
  | k + 1, v, j => if p + j = bt then (-1, j) else if sof f g ((j + 1 : Nat) : Int) (2 * v + B (p + j)) 0 16 = -1 then rsy B f g bt p k (2 * v + B (p + j)) (j + 1) else (sof f g ((j + 1 : Nat) : Int) (2 * v + B (p + j)) 0 16, j + 1)
theorem rsy_step (B f g : Nat → Int) (bt p : Nat) {L j : Nat} (v : Int) (h : j < L) : rsy B f g bt p (L - j) v j = if p + j = bt then (-1, j) else if sof f g ((j + 1 : Nat) : Int) (2 * v + B (p + j)) 0 16 = -1 then rsy B f g bt p (L - (j + 1)) (2 * v + B (p + j)) (j + 1) else (sof f g ((j + 1 : Nat) : Int) (2 * v + B (p + j)) 0 16, j + 1) := by
  rw [show L - j = (L - (j + 1)) + 1 by omega, rsy]
theorem rsy_congr {B B' f g f' g' : Nat → Int} {bt p : Nat} (hB : ∀ i, i < bt → B i = B' i) (hf : ∀ j, j < 16 → f j = f' j ∧ g j = g' j) : ∀ (k : Nat) (v : Int) (j : Nat), p + j ≤ bt → rsy B f g bt p k v j = rsy B' f' g' bt p k v j
  | 0, _, _, _ => rfl
  | k + 1, v, j, h => by
    rw [rsy, rsy]
    by_cases e : p + j = bt
    · rw [if_pos e, if_pos e]
    · rw [if_neg e, if_neg e, hB (p + j) (by omega), sof_congr (f := f) (g := g) (f' := f') (g' := g') _ _ 16 0 (fun i _ h2 => hf i (by omega)), rsy_congr hB hf k _ (j + 1) (by omega)]
/-- what is read from place k and bit p on -/
def rdl (B ln wd : Nat → Int) (bo : Nat → Nat) (bt L : Nat) : Nat → Nat → Nat → List Int
  | 0, _, _ => []
  | m + 1, k, p => if (rsy B (fun s => ln (16 * bo k + s)) (fun s => wd (16 * bo k + s)) bt p L 0 0).1 = -1 then [] else (rsy B (fun s => ln (16 * bo k + s)) (fun s => wd (16 * bo k + s)) bt p L 0 0).1 :: rdl B ln wd bo bt L m (k + 1) (p + (rsy B (fun s => ln (16 * bo k + s)) (fun s => wd (16 * bo k + s)) bt p L 0 0).2)
theorem rdl_step (B ln wd : Nat → Int) (bo : Nat → Nat) (bt L : Nat) {n k : Nat} (p : Nat) (h : k < n) : rdl B ln wd bo bt L (n - k) k p = if (rsy B (fun s => ln (16 * bo k + s)) (fun s => wd (16 * bo k + s)) bt p L 0 0).1 = -1 then [] else (rsy B (fun s => ln (16 * bo k + s)) (fun s => wd (16 * bo k + s)) bt p L 0 0).1 :: rdl B ln wd bo bt L (n - (k + 1)) (k + 1) (p + (rsy B (fun s => ln (16 * bo k + s)) (fun s => wd (16 * bo k + s)) bt p L 0 0).2) := by
  rw [show n - k = (n - (k + 1)) + 1 by omega, rdl]
/-- sums for the digest -/
def dgf (d : Int64) (f : Nat → Int) (a : Nat) : Nat → Int64
  | 0 => d
  | k + 1 => dgf d f a k * 31 + (iI (f (a + k))).toInt64
theorem dgf_congr {d : Int64} {f g : Nat → Int} {a : Nat} : ∀ k, (∀ i, i < k → f (a + i) = g (a + i)) → dgf d f a k = dgf d g a k
  | 0, _ => rfl
  | k + 1, h => by rw [dgf, dgf, dgf_congr k (fun i hi => h i (by omega)), h k (by omega)]
def dgb (d : Int64) (st ln : Nat → Int) : Nat → Int64
  | 0 => d
  | b + 1 => dgf (dgb d st ln b * 31 + (iI (st b)).toInt64) ln (16 * b) 16
theorem dgb_congr {d : Int64} {st st' ln ln' : Nat → Int} : ∀ k, (∀ i, i < k → st i = st' i) → (∀ x, x < 16 * k → ln x = ln' x) → dgb d st ln k = dgb d st' ln' k
  | 0, _, _ => rfl
  | k + 1, h, h2 => by
    rw [dgb, dgb, dgb_congr k (fun i hi => h i (by omega)) (fun x hx => h2 x (by omega)), h k (by omega)]
    exact dgf_congr 16 (fun i hi => h2 _ (by omega))

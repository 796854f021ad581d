/-! package-merge over rows: pure steps -/
def rB (f : Nat → Int) (w : List Nat) : Prop := ∀ i, i < w.length → f i = ((w.getD i 0 : Nat) : Int)
theorem rB_nil (f : Nat → Int) : rB f [] := fun i h => by simp at h
theorem rB_push {f : Nat → Int} {w : List Nat} {v : Nat} {k : Nat} (hk : k = w.length) (h : rB f w) : rB (va_up f k (v : Int)) (w ++ [v]) := by
  intro i hi
  subst hk
  simp only [List.length_append, List.length_singleton] at hi
  by_cases e : i = w.length
  · subst e
    rw [up_self, List.getD_eq_getElem?_getD, List.getElem?_append_right (Nat.le_refl _)]
    simp
  · rw [up_ne _ _ e, h i (by omega), List.getD_eq_getElem?_getD, List.getD_eq_getElem?_getD, List.getElem?_append_left (by omega)]
theorem drop2 {R : List Nat} {k : Nat} (h : k + 1 < R.length) : R.drop k = R.getD k 0 :: R.getD (k + 1) 0 :: R.drop (k + 2) := by
  rw [List.drop_eq_getElem_cons (by omega), List.drop_eq_getElem_cons (by omega)]
  simp [List.getD_eq_getElem?_getD, List.getElem?_eq_getElem (show k < R.length by omega), List.getElem?_eq_getElem h]
theorem drop1 {R : List Nat} {k : Nat} (h : R.length ≤ k + 1) : pg_pairs (R.drop k) = [] := by
  have hl : (R.drop k).length ≤ 1 := by rw [List.length_drop]; omega
  match hR : R.drop k, hl with
  | [], _ => rfl
  | [a], _ => rfl
  | a :: b :: t, hl => simp at hl
/-- the leaf is taken -/
theorem mg_leaf {fa : Nat → Int} {R : List Nat} {m la k : Nat} (h : R.length ≤ k + 1 ∨ (fa la).toNat ≤ R.getD k 0 + R.getD (k + 1) 0) (hm : 0 < m) : pg_mrg m (fal fa (la + 1)) (pg_pairs (R.drop k)) = (fa la).toNat :: pg_mrg (m - 1) (fal fa la) (pg_pairs (R.drop k)) := by
  obtain ⟨m', rfl⟩ : ∃ m', m = m' + 1 := ⟨m - 1, by omega⟩
  rw [fal, Nat.add_sub_cancel]
  by_cases e : R.length ≤ k + 1
  · rw [drop1 e, pg_mrg]
  · rw [drop2 (by omega), pg_pairs, pg_mrg, if_pos (by omega)]
/-- the pair is taken -/
theorem mg_pair {fa : Nat → Int} {R : List Nat} {m la k : Nat} (hk : k + 1 < R.length) (h : la = 0 ∨ R.getD k 0 + R.getD (k + 1) 0 < (fa (la - 1)).toNat) (hm : 0 < m) : pg_mrg m (fal fa la) (pg_pairs (R.drop k)) = (R.getD k 0 + R.getD (k + 1) 0) :: pg_mrg (m - 1) (fal fa la) (pg_pairs (R.drop (k + 2))) := by
  obtain ⟨m', rfl⟩ : ∃ m', m = m' + 1 := ⟨m - 1, by omega⟩
  rw [drop2 hk, pg_pairs, Nat.add_sub_cancel]
  by_cases e : la = 0
  · subst e; rw [fal, pg_mrg]
  · obtain ⟨l', rfl⟩ : ∃ l', la = l' + 1 := ⟨la - 1, by omega⟩
    rw [fal, pg_mrg, if_neg (by simp only [Nat.add_sub_cancel] at h; omega)]
theorem mg_end {fa : Nat → Int} {R : List Nat} {m la k : Nat} (h : m = 0 ∨ (la = 0 ∧ R.length ≤ k + 1)) : pg_mrg m (fal fa la) (pg_pairs (R.drop k)) = [] := by
  rcases h with h | ⟨h1, h2⟩
  · subst h; rfl
  · subst h1
    rw [drop1 h2, fal]
    cases m <;> rfl
/-- numbers of a row stay below a bound -/
theorem pg_pairs_bd {M : Nat} : ∀ w : List Nat, (∀ x ∈ w, x ≤ M) → ∀ x ∈ pg_pairs w, x ≤ 2 * M
  | [], _, x, h => by simp [pg_pairs] at h
  | [a], _, x, h => by simp [pg_pairs] at h
  | a :: b :: t, hw, x, h => by
    simp only [pg_pairs, List.mem_cons] at h
    rcases h with h | h
    · have h1 := hw a (by simp)
      have h2 := hw b (by simp)
      omega
    · exact pg_pairs_bd t (fun y hy => hw y (by simp [hy])) x h
theorem pg_row_bd {ws : List Nat} {most M : Nat} (h : ∀ x ∈ ws, x ≤ M) : ∀ k, ∀ x ∈ pg_row ws most k, x ≤ M * 2 ^ k
  | 0, x, hx => by simp [pg_row] at hx
  | k + 1, x, hx => by
    rcases pg_mrg_mem _ _ _ x hx with q | q
    · have h1 := h x q
      have h2 : M * 1 ≤ M * 2 ^ (k + 1) := Nat.mul_le_mul_left M (Nat.pow_pos (by decide))
      omega
    · have h1 := pg_pairs_bd _ (pg_row_bd h k) x q
      rw [Nat.pow_succ, ← Nat.mul_assoc]
      omega
theorem getD_mem {w : List Nat} {i : Nat} (h : i < w.length) : w.getD i 0 ∈ w := by
  rw [List.getD_eq_getElem?_getD, List.getElem?_eq_getElem h]
  exact List.getElem_mem h
theorem pg_row_len_le (ws : List Nat) (most : Nat) : ∀ k, (pg_row ws most k).length ≤ most
  | 0 => by simp [pg_row]
  | k + 1 => by rw [pg_row, pg_mrg_len]; omega
def tsum (w : List Nat) (k : Nat) : Nat := (w.take k).sum
theorem tsum_step {w : List Nat} {k : Nat} (h : k < w.length) : tsum w (k + 1) = tsum w k + w.getD k 0 := by
  rw [tsum, tsum, List.take_succ, List.sum_append_nat]
  simp [List.getD_eq_getElem?_getD, List.getElem?_eq_getElem h]
theorem tsum_all (w : List Nat) : tsum w w.length = w.sum := by rw [tsum, List.take_length]
theorem tsum_le {w : List Nat} {M : Nat} (h : ∀ x ∈ w, x ≤ M) : ∀ k, k ≤ w.length → tsum w k ≤ M * k
  | 0, _ => by simp [tsum]
  | k + 1, hk => by
    have h1 := tsum_le h k (by omega)
    have h2 := h _ (getD_mem (show k < w.length by omega))
    rw [tsum_step (by omega), Nat.mul_add]
    omega
/-- what the class's row of level L holds -/
theorem pm_final {c : Nat → Nat} {cn fa : Nat → Int} {kd L : Nat} (h : TL c cn fa kd) (h2 : 2 ≤ kd) (hL : kd ≤ 2 ^ L) (hf : (posl c 16).sum * L < 1000000) : (pg_row (fal fa kd) (2 * kd - 2) L).sum = pg_dp L (posl c 16) (2 ^ L) := by
  have hl := fal_len fa kd
  have q := pg_main (L := L) (ws := fal fa kd) (fal_asc kd h.2.2.1) (by omega) (by omega) (by rw [TL_sum h]; exact hf)
  rw [hl] at q
  rw [q.2]
  exact pg_dp_perm h.2.2.2.2 _
theorem pm_one {c : Nat → Nat} {cn fa : Nat → Int} {L : Nat} (h : TL c cn fa 1) (hL : 1 ≤ L) (hf : fa 0 ≤ 80) : fa 0 = ((pg_dp L (posl c 16) (2 ^ L) : Nat) : Int) := by
  have hp := h.2.2.2.1 0 (by omega)
  have hq := h.2.2.2.2
  rw [← pg_dp_perm hq]
  show fa 0 = ((pg_dp L [(fa 0).toNat] (2 ^ L) : Nat) : Int)
  have h1 := pg_dp_single (L := L) (w := (fa 0).toNat) hL
  have h2 : (fa 0).toNat ≤ pg_dp L [(fa 0).toNat] (2 ^ L) := by
    obtain ⟨ps, e1, e2, e3, e4⟩ := pg_dp_att (L := L) [(fa 0).toNat] (2 ^ L) (by omega)
    match ps, e1, e2, e4 with
    | [], e1, _, _ => simp at e1
    | [q], e1, e2, e4 =>
      simp at e1
      have h3 := (e2 q (by simp)).1
      rw [← e4]
      simp only [pg_ca, List.map_cons, List.map_nil, List.sum_cons, List.sum_nil]
      have : q.1 * 1 ≤ q.1 * q.2 := Nat.mul_le_mul_left _ h3
      omega
    | q :: r :: t, e1, _, _ => simp at e1
  omega

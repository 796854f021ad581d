/-! package-merge finds the least sum of lengths: pure -/
def pg_pairs : List Nat → List Nat
  | a :: b :: t => (a + b) :: pg_pairs t
  | _ => []
def pg_mrg : Nat → List Nat → List Nat → List Nat
  | 0, _, _ => []
  | _ + 1, [], [] => []
  | m + 1, a :: as, [] => a :: pg_mrg m as []
  | m + 1, [], b :: bs => b :: pg_mrg m [] bs
  | m + 1, a :: as, b :: bs => if a ≤ b then a :: pg_mrg m as (b :: bs) else b :: pg_mrg m (a :: as) bs
def pg_row (ws : List Nat) (most : Nat) : Nat → List Nat
  | 0 => []
  | k + 1 => pg_mrg most ws (pg_pairs (pg_row ws most k))
/-- ascending -/
def pg_asc (l : List Nat) : Prop := List.Pairwise (fun a b => a ≤ b) l
/-- the sum of the first -/
def pg_ps (l : List Nat) (m : Nat) : Nat := (l.take m).sum
theorem pg_ps_0 (l : List Nat) : pg_ps l 0 = 0 := by simp [pg_ps]
theorem pg_ps_nil (m : Nat) : pg_ps [] m = 0 := by simp [pg_ps]
theorem pg_ps_cons (a : Nat) (l : List Nat) (m : Nat) : pg_ps (a :: l) (m + 1) = a + pg_ps l m := by simp [pg_ps]
theorem pg_ps_mono {l : List Nat} {i j : Nat} (h : i ≤ j) : pg_ps l i ≤ pg_ps l j := by
  induction l generalizing i j with
  | nil => simp [pg_ps_nil]
  | cons a t ih =>
    cases i with
    | zero => simp [pg_ps_0]
    | succ i =>
      cases j with
      | zero => omega
      | succ j =>
        rw [pg_ps_cons, pg_ps_cons]
        have := ih (i := i) (j := j) (by omega)
        omega
theorem pg_ps_step {b : Nat} {l : List Nat} (h : ∀ x ∈ l, b ≤ x) {j : Nat} (hj : j < l.length) : pg_ps l j + b ≤ pg_ps l (j + 1) := by
  induction l generalizing j with
  | nil => simp at hj
  | cons a t ih =>
    cases j with
    | zero =>
      rw [pg_ps_cons, pg_ps_0, pg_ps_0]
      have := h a List.mem_cons_self
      omega
    | succ j =>
      rw [pg_ps_cons, pg_ps_cons]
      have := ih (fun x hx => h x (List.mem_cons_of_mem _ hx)) (j := j) (by simpa using hj)
      omega
theorem pg_asc_cons {a : Nat} {l : List Nat} (h : pg_asc (a :: l)) : (∀ x ∈ l, a ≤ x) ∧ pg_asc l := List.pairwise_cons.mp h
theorem pg_mrg_len : ∀ (m : Nat) (as bs : List Nat), (pg_mrg m as bs).length = min m (as.length + bs.length)
  | 0, _, _ => by simp [pg_mrg]
  | m + 1, [], [] => by simp [pg_mrg]
  | m + 1, a :: as, [] => by
    simp only [pg_mrg, List.length_cons, pg_mrg_len m as [], List.length_nil]
    omega
  | m + 1, [], b :: bs => by
    simp only [pg_mrg, List.length_cons, pg_mrg_len m [] bs, List.length_nil]
    omega
  | m + 1, a :: as, b :: bs => by
    simp only [pg_mrg]
    split
    · simp only [List.length_cons, pg_mrg_len m as (b :: bs)]
      omega
    · simp only [List.length_cons, pg_mrg_len m (a :: as) bs]
      omega
theorem pg_mrg_mem : ∀ (m : Nat) (as bs : List Nat) (x : Nat), x ∈ pg_mrg m as bs → x ∈ as ∨ x ∈ bs
  | 0, _, _, x, h => by simp [pg_mrg] at h
  | m + 1, [], [], x, h => by simp [pg_mrg] at h
  | m + 1, a :: as, [], x, h => by
    simp only [pg_mrg, List.mem_cons] at h
    rcases h with h | h
    · exact Or.inl (by simp [h])
    · rcases pg_mrg_mem m as [] x h with q | q
      · exact Or.inl (List.mem_cons_of_mem _ q)
      · exact Or.inr q
  | m + 1, [], b :: bs, x, h => by
    simp only [pg_mrg, List.mem_cons] at h
    rcases h with h | h
    · exact Or.inr (by simp [h])
    · rcases pg_mrg_mem m [] bs x h with q | q
      · exact Or.inl q
      · exact Or.inr (List.mem_cons_of_mem _ q)
  | m + 1, a :: as, b :: bs, x, h => by
    simp only [pg_mrg] at h
    split at h
    · rcases List.mem_cons.mp h with h | h
      · exact Or.inl (by simp [h])
      · rcases pg_mrg_mem m as (b :: bs) x h with q | q
        · exact Or.inl (List.mem_cons_of_mem _ q)
        · exact Or.inr q
    · rcases List.mem_cons.mp h with h | h
      · exact Or.inr (by simp [h])
      · rcases pg_mrg_mem m (a :: as) bs x h with q | q
        · exact Or.inl q
        · exact Or.inr (List.mem_cons_of_mem _ q)
theorem pg_mrg_asc : ∀ (m : Nat) (as bs : List Nat), pg_asc as → pg_asc bs → pg_asc (pg_mrg m as bs)
  | 0, _, _, _, _ => by simp [pg_mrg, pg_asc]
  | m + 1, [], [], _, _ => by simp [pg_mrg, pg_asc]
  | m + 1, a :: as, [], ha, hb => by
    obtain ⟨h1, h2⟩ := pg_asc_cons ha
    simp only [pg_mrg]
    refine List.pairwise_cons.mpr ⟨fun x hx => ?_, pg_mrg_asc m as [] h2 hb⟩
    rcases pg_mrg_mem m as [] x hx with q | q
    · exact h1 x q
    · simp at q
  | m + 1, [], b :: bs, ha, hb => by
    obtain ⟨h1, h2⟩ := pg_asc_cons hb
    simp only [pg_mrg]
    refine List.pairwise_cons.mpr ⟨fun x hx => ?_, pg_mrg_asc m [] bs ha h2⟩
    rcases pg_mrg_mem m [] bs x hx with q | q
    · simp at q
    · exact h1 x q
  | m + 1, a :: as, b :: bs, ha, hb => by
    obtain ⟨h1, h2⟩ := pg_asc_cons ha
    obtain ⟨h3, h4⟩ := pg_asc_cons hb
    simp only [pg_mrg]
    split
    · rename_i hab
      refine List.pairwise_cons.mpr ⟨fun x hx => ?_, pg_mrg_asc m as (b :: bs) h2 hb⟩
      rcases pg_mrg_mem m as (b :: bs) x hx with q | q
      · exact h1 x q
      · rcases List.mem_cons.mp q with q | q
        · omega
        · exact Nat.le_trans hab (h3 x q)
    · rename_i hab
      refine List.pairwise_cons.mpr ⟨fun x hx => ?_, pg_mrg_asc m (a :: as) bs ha h4⟩
      rcases pg_mrg_mem m (a :: as) bs x hx with q | q
      · rcases List.mem_cons.mp q with q | q
        · omega
        · have := h1 x q; omega
      · exact h3 x q
/-- the first k of a merge cost no more than any i of the one and j of the other -/
theorem pg_mrg_low : ∀ (m : Nat) (as bs : List Nat), pg_asc as → pg_asc bs → ∀ (k i j : Nat), k ≤ i + j → i ≤ as.length → j ≤ bs.length → pg_ps (pg_mrg m as bs) k ≤ pg_ps as i + pg_ps bs j
  | 0, _, _, _, _, k, i, j, _, _, _ => by simp [pg_mrg, pg_ps_nil]
  | m + 1, [], [], _, _, k, i, j, _, _, _ => by simp [pg_mrg, pg_ps_nil]
  | m + 1, a :: as, [], ha, hb, k, i, j, hk, hi, hj => by
    obtain ⟨h1, h2⟩ := pg_asc_cons ha
    simp only [pg_mrg]
    cases k with
    | zero => simp [pg_ps_0]
    | succ k =>
      simp only [List.length_nil] at hj
      cases i with
      | zero => omega
      | succ i =>
        have := pg_mrg_low m as [] h2 hb k i j (by omega) (by simpa using hi) (by simpa using hj)
        rw [pg_ps_cons, pg_ps_cons]
        omega
  | m + 1, [], b :: bs, ha, hb, k, i, j, hk, hi, hj => by
    obtain ⟨h1, h2⟩ := pg_asc_cons hb
    simp only [pg_mrg]
    cases k with
    | zero => simp [pg_ps_0]
    | succ k =>
      simp only [List.length_nil] at hi
      cases j with
      | zero => omega
      | succ j =>
        have := pg_mrg_low m [] bs ha h2 k i j (by omega) (by simpa using hi) (by simpa using hj)
        rw [pg_ps_cons, pg_ps_cons]
        omega
  | m + 1, a :: as, b :: bs, ha, hb, k, i, j, hk, hi, hj => by
    obtain ⟨h1, h2⟩ := pg_asc_cons ha
    obtain ⟨h3, h4⟩ := pg_asc_cons hb
    simp only [pg_mrg]
    cases k with
    | zero => simp [pg_ps_0]
    | succ k =>
      split
      · rename_i hab
        rw [pg_ps_cons]
        cases i with
        | succ i =>
          have := pg_mrg_low m as (b :: bs) h2 hb k i j (by omega) (by simpa using hi) hj
          rw [pg_ps_cons]
          omega
        | zero =>
          cases j with
          | zero => omega
          | succ j =>
            have := pg_mrg_low m as (b :: bs) h2 hb k 0 j (by omega) (by omega) (by omega)
            have h5 := pg_ps_step (b := a) (l := b :: bs) (fun x hx => by
              rcases List.mem_cons.mp hx with q | q
              · omega
              · exact Nat.le_trans hab (h3 x q)) (j := j) (by omega)
            rw [pg_ps_0] at this ⊢
            omega
      · rename_i hab
        rw [pg_ps_cons]
        cases j with
        | succ j =>
          have := pg_mrg_low m (a :: as) bs ha h4 k i j (by omega) hi (by simpa using hj)
          rw [pg_ps_cons]
          omega
        | zero =>
          cases i with
          | zero => omega
          | succ i =>
            have := pg_mrg_low m (a :: as) bs ha h4 k i 0 (by omega) (by omega) (by omega)
            have h5 := pg_ps_step (b := b) (l := a :: as) (fun x hx => by
              rcases List.mem_cons.mp hx with q | q
              · omega
              · have := h1 x q; omega) (j := i) (by omega)
            rw [pg_ps_0] at this ⊢
            omega
theorem pg_mrg_att : ∀ (m : Nat) (as bs : List Nat) (k : Nat), k ≤ (pg_mrg m as bs).length → ∃ i j, i + j = k ∧ i ≤ as.length ∧ j ≤ bs.length ∧ pg_ps (pg_mrg m as bs) k = pg_ps as i + pg_ps bs j
  | 0, _, _, k, h => ⟨0, 0, by simp [pg_mrg] at h; omega, by omega, by omega, by simp [pg_mrg, pg_ps_nil, pg_ps_0]⟩
  | m + 1, [], [], k, h => ⟨0, 0, by simp [pg_mrg] at h; omega, by omega, by omega, by simp [pg_mrg, pg_ps_nil]⟩
  | m + 1, a :: as, [], k, h => by
    cases k with
    | zero => exact ⟨0, 0, rfl, by omega, by omega, by simp [pg_ps_0]⟩
    | succ k =>
      simp only [pg_mrg, List.length_cons] at h ⊢
      obtain ⟨i, j, h1, h2, h3, h4⟩ := pg_mrg_att m as [] k (by omega)
      exact ⟨i + 1, j, by omega, by simp; omega, h3, by rw [pg_ps_cons, pg_ps_cons, h4]; omega⟩
  | m + 1, [], b :: bs, k, h => by
    cases k with
    | zero => exact ⟨0, 0, rfl, by omega, by omega, by simp [pg_ps_0]⟩
    | succ k =>
      simp only [pg_mrg, List.length_cons] at h ⊢
      obtain ⟨i, j, h1, h2, h3, h4⟩ := pg_mrg_att m [] bs k (by omega)
      exact ⟨i, j + 1, by omega, h2, by omega, by rw [pg_ps_cons, pg_ps_cons, h4]; omega⟩
  | m + 1, a :: as, b :: bs, k, h => by
    cases k with
    | zero => exact ⟨0, 0, rfl, by omega, by omega, by simp [pg_ps_0]⟩
    | succ k =>
      simp only [pg_mrg] at h ⊢
      split
      · rename_i hab
        rw [if_pos hab, List.length_cons] at h
        obtain ⟨i, j, h1, h2, h3, h4⟩ := pg_mrg_att m as (b :: bs) k (by omega)
        exact ⟨i + 1, j, by omega, by simp only [List.length_cons]; omega, h3, by rw [pg_ps_cons, pg_ps_cons, h4]; omega⟩
      · rename_i hab
        rw [if_neg hab, List.length_cons] at h
        obtain ⟨i, j, h1, h2, h3, h4⟩ := pg_mrg_att m (a :: as) bs k (by omega)
        exact ⟨i, j + 1, by omega, h2, by simp only [List.length_cons]; omega, by rw [pg_ps_cons, pg_ps_cons, h4]; omega⟩
theorem pg_pairs_len : ∀ l : List Nat, (pg_pairs l).length = l.length / 2
  | [] => by simp [pg_pairs]
  | [a] => by simp [pg_pairs]
  | a :: b :: t => by
    simp only [pg_pairs, List.length_cons, pg_pairs_len t]
    omega
theorem pg_pairs_ps : ∀ (l : List Nat) (j : Nat), j ≤ (pg_pairs l).length → pg_ps (pg_pairs l) j = pg_ps l (2 * j)
  | [], j, h => by simp [pg_pairs, pg_ps_nil]
  | [a], j, h => by
    simp [pg_pairs] at h
    subst h
    simp [pg_ps_0]
  | a :: b :: t, j, h => by
    cases j with
    | zero => simp [pg_ps_0]
    | succ j =>
      simp only [pg_pairs, List.length_cons] at h ⊢
      rw [pg_ps_cons, show 2 * (j + 1) = (2 * j + 1) + 1 by omega, pg_ps_cons, pg_ps_cons, pg_pairs_ps t j (by omega)]
      omega
theorem pg_pairs_mem : ∀ (l : List Nat) (b x : Nat), (∀ y ∈ l, b ≤ y) → x ∈ pg_pairs l → 2 * b ≤ x
  | [], _, _, _, h => by simp [pg_pairs] at h
  | [a], _, _, _, h => by simp [pg_pairs] at h
  | a :: c :: t, b, x, hb, h => by
    simp only [pg_pairs, List.mem_cons] at h
    rcases h with h | h
    · have h1 := hb a (by simp)
      have h2 := hb c (by simp)
      omega
    · exact pg_pairs_mem t b x (fun y hy => hb y (by simp [hy])) h
theorem pg_pairs_asc : ∀ l : List Nat, pg_asc l → pg_asc (pg_pairs l)
  | [], _ => by simp [pg_pairs, pg_asc]
  | [a], _ => by simp [pg_pairs, pg_asc]
  | a :: b :: t, h => by
    obtain ⟨h1, h2⟩ := pg_asc_cons h
    obtain ⟨h3, h4⟩ := pg_asc_cons h2
    simp only [pg_pairs]
    refine List.pairwise_cons.mpr ⟨fun x hx => ?_, pg_pairs_asc t h4⟩
    have := pg_pairs_mem t b x h3 hx
    have := h1 b (by simp)
    omega
theorem pg_row_asc {ws : List Nat} (h : pg_asc ws) (most : Nat) : ∀ k, pg_asc (pg_row ws most k)
  | 0 => by simp [pg_row, pg_asc]
  | k + 1 => pg_mrg_asc _ _ _ h (pg_pairs_asc _ (pg_row_asc h most k))
/-- how many a row holds -/
theorem pg_row_len {ws : List Nat} (hn : 2 ≤ ws.length) : ∀ (L q : Nat), q ≤ 2 * ws.length - 2 → q * 2 ^ L + 2 * ws.length ≤ 2 * ws.length * 2 ^ L → q ≤ (pg_row ws (2 * ws.length - 2) L).length := by
  intro L
  induction L with
  | zero =>
    intro q h1 h2
    simp at h2
    omega
  | succ L ih =>
    intro q h1 h2
    simp only [pg_row, pg_mrg_len, pg_pairs_len]
    generalize hN : ws.length = N at *
    generalize hP : 2 ^ L = P at *
    rw [Nat.pow_succ, hP] at h2
    by_cases hq : q ≤ N
    · omega
    · obtain ⟨r, hr⟩ : ∃ r, q = N + r := ⟨q - N, by omega⟩
      subst hr
      have e1 : (N + r) * (P * 2) = N * P * 2 + r * P * 2 := by rw [Nat.add_mul, Nat.mul_assoc, Nat.mul_assoc]
      have e2 : 2 * N * (P * 2) = N * P * 4 := by rw [Nat.mul_comm 2 N, Nat.mul_assoc, Nat.mul_comm 2 (P * 2), Nat.mul_assoc, ← Nat.mul_assoc]
      have e3 : 2 * r * P = r * P * 2 := by rw [Nat.mul_assoc, Nat.mul_comm]
      have e4 : 2 * N * P = N * P * 2 := by rw [Nat.mul_assoc, Nat.mul_comm]
      rw [e1, e2] at h2
      have h5 : r * P * 2 + 2 * N ≤ N * P * 2 := by omega
      have h6 : r < N := by
        rcases Nat.lt_or_ge r N with q | q
        · exact q
        · have := Nat.mul_le_mul_right P q
          omega
      have := ih (2 * r) (by omega) (by rw [e3, e4]; exact h5)
      omega
/-- selections: how many of the smallest at each level, the top level first -/
def pg_wid : List Nat → Nat
  | [] => 0
  | a :: t => a * 2 ^ t.length + pg_wid t
def pg_cost (ws : List Nat) : List Nat → Nat
  | [] => 0
  | a :: t => pg_ps ws a + pg_cost ws t
theorem pg_wid_le {n : Nat} : ∀ a : List Nat, (∀ x ∈ a, x ≤ n) → pg_wid a + n ≤ n * 2 ^ a.length
  | [], _ => by simp [pg_wid]
  | a :: t, h => by
    have h1 := pg_wid_le t (fun x hx => h x (List.mem_cons_of_mem _ hx))
    have h2 := Nat.mul_le_mul_right (2 ^ t.length) (h a List.mem_cons_self)
    simp only [pg_wid, List.length_cons, Nat.pow_succ]
    have : n * (2 ^ t.length * 2) = n * 2 ^ t.length * 2 := by rw [Nat.mul_assoc]
    omega
theorem pg_low {ws : List Nat} (hs : pg_asc ws) (hn : 2 ≤ ws.length) : ∀ (a : List Nat), (∀ x ∈ a, x ≤ ws.length) → ∀ m, m ≤ (pg_row ws (2 * ws.length - 2) a.length).length → m * 2 ^ a.length ≤ 2 * pg_wid a → pg_ps (pg_row ws (2 * ws.length - 2) a.length) m ≤ pg_cost ws a
  | [], _, m, _, _ => by simp [pg_row, pg_ps_nil]
  | a :: t, ha, m, hm, hw => by
    have ha1 := ha a List.mem_cons_self
    have hat : ∀ x ∈ t, x ≤ ws.length := fun x hx => ha x (List.mem_cons_of_mem _ hx)
    have hwt := pg_wid_le t hat
    have hrs := pg_row_asc hs (2 * ws.length - 2) t.length
    simp only [List.length_cons, pg_row, pg_wid, pg_cost] at hm hw ⊢
    rw [Nat.pow_succ] at hw
    by_cases hma : m ≤ a
    · have h1 := pg_mrg_low (2 * ws.length - 2) ws (pg_pairs (pg_row ws (2 * ws.length - 2) t.length)) hs (pg_pairs_asc _ hrs) m a 0 (by omega) ha1 (by omega)
      rw [pg_ps_0] at h1
      omega
    · obtain ⟨j, hj⟩ : ∃ j, m = a + j := ⟨m - a, by omega⟩
      subst hj
      have hl := pg_mrg_len (2 * ws.length - 2) ws (pg_pairs (pg_row ws (2 * ws.length - 2) t.length))
      generalize hP : 2 ^ t.length = P at *
      have e1 : (a + j) * (P * 2) = a * P * 2 + j * P * 2 := by rw [Nat.add_mul, Nat.mul_assoc, Nat.mul_assoc]
      rw [e1] at hw
      have hw2 : j * P ≤ pg_wid t := by omega
      have e3 : 2 * j * P = j * P * 2 := by rw [Nat.mul_assoc, Nat.mul_comm]
      have e4 : 2 * ws.length * P = ws.length * P * 2 := by rw [Nat.mul_assoc, Nat.mul_comm]
      have hjn : j < ws.length := by
        rcases Nat.lt_or_ge j ws.length with q | q
        · exact q
        · have := Nat.mul_le_mul_right P q
          omega
      have h2 := pg_row_len hn t.length (2 * j) (by omega) (by rw [hP, e3, e4]; omega)
      have h3 := pg_low hs hn t hat (2 * j) h2 (by rw [hP, e3]; omega)
      have h4 : j ≤ (pg_pairs (pg_row ws (2 * ws.length - 2) t.length)).length := by rw [pg_pairs_len]; omega
      have h5 := pg_mrg_low (2 * ws.length - 2) ws (pg_pairs (pg_row ws (2 * ws.length - 2) t.length)) hs (pg_pairs_asc _ hrs) (a + j) a j (Nat.le_refl _) ha1 h4
      rw [pg_pairs_ps _ _ h4] at h5
      omega
theorem pg_att {ws : List Nat} (most : Nat) : ∀ (L m : Nat), m ≤ (pg_row ws most L).length → ∃ a : List Nat, a.length = L ∧ (∀ x ∈ a, x ≤ ws.length) ∧ 2 * pg_wid a = m * 2 ^ L ∧ pg_cost ws a = pg_ps (pg_row ws most L) m
  | 0, m, h => ⟨[], rfl, by simp, by simp [pg_row] at h; simp [pg_wid, h], by simp [pg_row, pg_cost, pg_ps_nil]⟩
  | L + 1, m, h => by
    simp only [pg_row] at h ⊢
    obtain ⟨i, j, h1, h2, h3, h4⟩ := pg_mrg_att _ _ _ m h
    rw [pg_pairs_ps _ _ h3] at h4
    rw [pg_pairs_len] at h3
    obtain ⟨t, e1, e2, e3, e4⟩ := pg_att (ws := ws) most L (2 * j) (by omega)
    refine ⟨i :: t, by simp [e1], fun x hx => ?_, ?_, ?_⟩
    · rcases List.mem_cons.mp hx with q | q
      · omega
      · exact e2 x q
    · simp only [pg_wid, e1, Nat.pow_succ]
      subst h1
      have e5 : 2 * j * 2 ^ L = j * 2 ^ L * 2 := by rw [Nat.mul_assoc, Nat.mul_comm]
      have e6 : (i + j) * (2 ^ L * 2) = i * 2 ^ L * 2 + j * 2 ^ L * 2 := by rw [Nat.add_mul, Nat.mul_assoc, Nat.mul_assoc]
      rw [e5] at e3
      rw [e6]
      omega
    · simp only [pg_cost, e4, h4]

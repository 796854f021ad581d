/-! the least sum of lengths by tables (pg_dp), its assignments, and package-merge: pure -/
def pg_best (L w room : Nat) (g : Nat → Nat) : Nat → Nat
  | 0 => 1000000
  | k + 1 => min (pg_best L w room g k) (if 2 ^ (L - (k + 1)) ≤ room then w * (k + 1) + g (room - 2 ^ (L - (k + 1))) else 1000000)
def pg_dp (L : Nat) : List Nat → Nat → Nat
  | [], _ => 0
  | w :: ws, room => pg_best L w room (pg_dp L ws) L
theorem pg_best_cap (L w room : Nat) (g : Nat → Nat) : ∀ k, pg_best L w room g k ≤ 1000000
  | 0 => Nat.le_refl _
  | k + 1 => by
    have := pg_best_cap L w room g k
    simp only [pg_best]
    omega
theorem pg_best_le {L w room : Nat} {g : Nat → Nat} : ∀ (k l : Nat), 1 ≤ l → l ≤ k → 2 ^ (L - l) ≤ room → pg_best L w room g k ≤ w * l + g (room - 2 ^ (L - l))
  | 0, l, h1, h2, _ => by omega
  | k + 1, l, h1, h2, h3 => by
    simp only [pg_best]
    by_cases h : l = k + 1
    · subst h
      rw [if_pos h3]
      omega
    · have := pg_best_le (w := w) (g := g) k l h1 (by omega) h3
      omega
theorem pg_best_att {L w room : Nat} {g : Nat → Nat} : ∀ (k : Nat), pg_best L w room g k < 1000000 → ∃ l, 1 ≤ l ∧ l ≤ k ∧ 2 ^ (L - l) ≤ room ∧ pg_best L w room g k = w * l + g (room - 2 ^ (L - l))
  | 0, h => by simp [pg_best] at h
  | k + 1, h => by
    simp only [pg_best] at h ⊢
    by_cases h1 : pg_best L w room g k ≤ (if 2 ^ (L - (k + 1)) ≤ room then w * (k + 1) + g (room - 2 ^ (L - (k + 1))) else 1000000)
    · rw [Nat.min_eq_left h1] at h ⊢
      obtain ⟨l, q1, q2, q3, q4⟩ := pg_best_att k h
      exact ⟨l, q1, by omega, q3, q4⟩
    · rw [Nat.min_eq_right (by omega)] at h ⊢
      by_cases h2 : 2 ^ (L - (k + 1)) ≤ room
      · rw [if_pos h2] at h ⊢
        exact ⟨k + 1, by omega, by omega, h2, rfl⟩
      · rw [if_neg h2] at h
        omega
theorem pg_dp_cap (L : Nat) (ws : List Nat) (room : Nat) : pg_dp L ws room ≤ 1000000 := by
  cases ws with
  | nil => simp [pg_dp]
  | cons w ws => exact pg_best_cap _ _ _ _ _
def pg_ca (ps : List (Nat × Nat)) : Nat := (ps.map (fun q => q.1 * q.2)).sum
def pg_kr (L : Nat) (ps : List (Nat × Nat)) : Nat := (ps.map (fun q => 2 ^ (L - q.2))).sum
def pg_ok (L : Nat) (ps : List (Nat × Nat)) : Prop := ∀ q ∈ ps, 1 ≤ q.2 ∧ q.2 ≤ L
theorem pg_dp_le {L : Nat} : ∀ (ps : List (Nat × Nat)) (room : Nat), pg_ok L ps → pg_kr L ps ≤ room → pg_dp L (ps.map Prod.fst) room ≤ pg_ca ps
  | [], _, _, _ => by simp [pg_dp]
  | (w, l) :: t, room, hok, hk => by
    have h1 := hok (w, l) List.mem_cons_self
    simp only [pg_kr, List.map_cons, List.sum_cons] at hk
    have h2 := pg_dp_le (L := L) t (room - 2 ^ (L - l)) (fun q hq => hok q (List.mem_cons_of_mem _ hq)) (by simp only [pg_kr]; omega)
    have h3 := pg_best_le (L := L) (w := w) (g := pg_dp L (t.map Prod.fst)) (room := room) L l h1.1 h1.2 (by omega)
    simp only [List.map_cons, pg_dp, pg_ca, List.sum_cons]
    simp only [pg_ca] at h2
    omega
theorem pg_dp_att {L : Nat} : ∀ (ws : List Nat) (room : Nat), pg_dp L ws room < 1000000 → ∃ ps : List (Nat × Nat), ps.map Prod.fst = ws ∧ pg_ok L ps ∧ pg_kr L ps ≤ room ∧ pg_ca ps = pg_dp L ws room
  | [], room, _ => ⟨[], rfl, by simp [pg_ok], by simp [pg_kr], by simp [pg_ca, pg_dp]⟩
  | w :: ws, room, h => by
    simp only [pg_dp] at h ⊢
    obtain ⟨l, h1, h2, h3, h4⟩ := pg_best_att L h
    rw [h4] at h
    obtain ⟨ps, e1, e2, e3, e4⟩ := pg_dp_att (L := L) ws (room - 2 ^ (L - l)) (by omega)
    refine ⟨(w, l) :: ps, by simp [e1], fun q hq => ?_, ?_, ?_⟩
    · rcases List.mem_cons.mp hq with q1 | q1
      · rw [q1]; exact ⟨h1, h2⟩
      · exact e2 q q1
    · simp only [pg_kr, List.map_cons, List.sum_cons] at e3 ⊢
      omega
    · rw [h4, ← e4]
      simp only [pg_ca, List.map_cons, List.sum_cons]
theorem pg_lift {ws ws' : List Nat} (h : ws.Perm ws') : ∀ ps : List (Nat × Nat), ps.map Prod.fst = ws → ∃ ps' : List (Nat × Nat), ps.Perm ps' ∧ ps'.map Prod.fst = ws' := by
  induction h with
  | nil => intro ps hp; exact ⟨ps, List.Perm.refl _, hp⟩
  | cons x _ ih =>
    intro ps hp
    cases ps with
    | nil => simp at hp
    | cons q t =>
      simp only [List.map_cons, List.cons.injEq] at hp
      obtain ⟨t', h1, h2⟩ := ih t hp.2
      exact ⟨q :: t', h1.cons q, by simp [h2, hp.1]⟩
  | swap x y l =>
    intro ps hp
    match ps, hp with
    | [], hp => simp at hp
    | [q], hp => simp at hp
    | q :: r :: t, hp =>
      simp only [List.map_cons, List.cons.injEq] at hp
      exact ⟨r :: q :: t, List.Perm.swap r q t, by simp [hp.1, hp.2.1, hp.2.2]⟩
  | trans _ _ ih1 ih2 =>
    intro ps hp
    obtain ⟨p1, h1, h2⟩ := ih1 ps hp
    obtain ⟨p2, h3, h4⟩ := ih2 p1 h2
    exact ⟨p2, h1.trans h3, h4⟩
theorem pg_dp_perm_le {L : Nat} {ws ws' : List Nat} (h : ws.Perm ws') (room : Nat) : pg_dp L ws' room ≤ pg_dp L ws room := by
  by_cases hf : pg_dp L ws room < 1000000
  · obtain ⟨ps, e1, e2, e3, e4⟩ := pg_dp_att ws room hf
    obtain ⟨ps', h1, h2⟩ := pg_lift h ps e1
    have h3 := pg_dp_le ps' room (fun q hq => e2 q (h1.mem_iff.mpr hq)) (by
      have := (h1.map (fun q => 2 ^ (L - q.2))).sum_nat
      simp only [pg_kr] at e3 ⊢
      omega)
    have h4 := (h1.map (fun q => q.1 * q.2)).sum_nat
    rw [h2] at h3
    simp only [pg_ca] at h3 e4
    omega
  · have := pg_dp_cap L ws' room
    omega
theorem pg_dp_perm {L : Nat} {ws ws' : List Nat} (h : ws.Perm ws') (room : Nat) : pg_dp L ws room = pg_dp L ws' room := Nat.le_antisymm (pg_dp_perm_le h.symm room) (pg_dp_perm_le h room)
/-- the lengths out of a selection -/
def pg_len (a : List Nat) (i : Nat) : Nat := a.countP (fun x => decide (i < x))
def pg_asg (a : List Nat) : Nat → List Nat → List (Nat × Nat)
  | _, [] => []
  | i, w :: t => (w, pg_len a i) :: pg_asg a (i + 1) t
theorem pg_len_cons (x : Nat) (t : List Nat) (i : Nat) : pg_len (x :: t) i = (if i < x then 1 else 0) + pg_len t i := by
  simp only [pg_len, List.countP_cons]
  by_cases h : i < x
  · simp [h]; omega
  · simp [h]
theorem pg_len_le (a : List Nat) (i : Nat) : pg_len a i ≤ a.length := List.countP_le_length
theorem pg_asg_fst (a : List Nat) : ∀ (i : Nat) (ws : List Nat), (pg_asg a i ws).map Prod.fst = ws
  | _, [] => rfl
  | i, w :: t => by simp [pg_asg, pg_asg_fst a (i + 1) t]
theorem pg_asg_len (a : List Nat) : ∀ (i : Nat) (ws : List Nat), (pg_asg a i ws).length = ws.length
  | _, [] => rfl
  | i, w :: t => by simp [pg_asg, pg_asg_len a (i + 1) t]
theorem pg_asg_mem (a : List Nat) : ∀ (i : Nat) (ws : List Nat) (q : Nat × Nat), q ∈ pg_asg a i ws → q.2 ≤ a.length
  | _, [], q, h => by simp [pg_asg] at h
  | i, w :: t, q, h => by
    simp only [pg_asg, List.mem_cons] at h
    rcases h with h | h
    · rw [h]; exact pg_len_le a i
    · exact pg_asg_mem a (i + 1) t q h
theorem pg_asg_ca_cons (x : Nat) (t : List Nat) : ∀ (i : Nat) (ws : List Nat), pg_ca (pg_asg (x :: t) i ws) = pg_ca (pg_asg t i ws) + pg_ps ws (x - i)
  | i, [] => by simp [pg_asg, pg_ca, pg_ps_nil]
  | i, w :: ws => by
    have h := pg_asg_ca_cons x t (i + 1) ws
    simp only [pg_ca] at h
    simp only [pg_asg, pg_ca, List.map_cons, List.sum_cons, pg_len_cons, h]
    by_cases hi : i < x
    · rw [if_pos hi, show x - i = (x - (i + 1)) + 1 by omega, pg_ps_cons, Nat.mul_add]
      omega
    · rw [if_neg hi, show x - i = 0 by omega, show x - (i + 1) = 0 by omega, pg_ps_0, pg_ps_0]
      simp
theorem pg_asg_ca_nil : ∀ (i : Nat) (ws : List Nat), pg_ca (pg_asg [] i ws) = 0
  | _, [] => rfl
  | i, w :: t => by
    have := pg_asg_ca_nil (i + 1) t
    simp only [pg_ca] at this
    simp [pg_asg, pg_ca, pg_len, this]
theorem pg_asg_ca (ws : List Nat) : ∀ a : List Nat, pg_ca (pg_asg a 0 ws) = pg_cost ws a
  | [] => pg_asg_ca_nil 0 ws
  | x :: t => by
    rw [pg_asg_ca_cons, pg_asg_ca ws t, pg_cost]
    simp
    omega
/-- the width that a place gets -/
def pg_v : List Nat → Nat → Nat
  | [], _ => 0
  | x :: t, i => (if i < x then 2 ^ t.length else 0) + pg_v t i
theorem pg_v_le (i : Nat) : ∀ a : List Nat, 2 ^ (a.length - pg_len a i) + pg_v a i ≤ 2 ^ a.length
  | [] => by simp [pg_v]
  | x :: t => by
    have h1 := pg_v_le i t
    have h2 := pg_len_le t i
    simp only [pg_v, pg_len_cons, List.length_cons]
    by_cases h : i < x
    · rw [if_pos h, if_pos h, show t.length + 1 - (1 + pg_len t i) = t.length - pg_len t i by omega, Nat.pow_succ]
      omega
    · rw [if_neg h, if_neg h, show t.length + 1 - (0 + pg_len t i) = (t.length - pg_len t i) + 1 by omega, Nat.pow_succ, Nat.pow_succ]
      omega
def pg_sv (a : List Nat) : Nat → Nat → Nat
  | _, 0 => 0
  | i, k + 1 => pg_v a i + pg_sv a (i + 1) k
theorem pg_sv_nil : ∀ (i k : Nat), pg_sv [] i k = 0
  | _, 0 => rfl
  | i, k + 1 => by simp [pg_sv, pg_v, pg_sv_nil (i + 1) k]
theorem pg_sv_cons (x : Nat) (t : List Nat) : ∀ (k i : Nat), pg_sv (x :: t) i k = (min k (x - i)) * 2 ^ t.length + pg_sv t i k
  | 0, i => by simp [pg_sv]
  | k + 1, i => by
    simp only [pg_sv, pg_v, pg_sv_cons x t k (i + 1)]
    by_cases h : i < x
    · rw [if_pos h, show min (k + 1) (x - i) = min k (x - (i + 1)) + 1 by omega, Nat.add_mul]
      omega
    · rw [if_neg h, show min (k + 1) (x - i) = 0 by omega, show min k (x - (i + 1)) = 0 by omega]
      omega
theorem pg_sv_wid {n : Nat} : ∀ a : List Nat, (∀ x ∈ a, x ≤ n) → pg_sv a 0 n = pg_wid a
  | [], _ => by simp [pg_sv_nil, pg_wid]
  | x :: t, h => by
    rw [pg_sv_cons, pg_sv_wid t (fun y hy => h y (List.mem_cons_of_mem _ hy)), pg_wid]
    have := h x List.mem_cons_self
    rw [show min n (x - 0) = x by omega]
theorem pg_asg_kr (a : List Nat) : ∀ (i : Nat) (ws : List Nat), pg_kr a.length (pg_asg a i ws) + pg_sv a i ws.length ≤ ws.length * 2 ^ a.length
  | _, [] => by simp [pg_asg, pg_kr, pg_sv]
  | i, w :: t => by
    have h1 := pg_asg_kr a (i + 1) t
    have h2 := pg_v_le i a
    simp only [pg_kr] at h1
    simp only [pg_asg, pg_kr, List.map_cons, List.sum_cons, List.length_cons, pg_sv, Nat.add_mul]
    omega
theorem pg_kr_ge {L : Nat} : ∀ (ps : List (Nat × Nat)), ps.length ≤ pg_kr L ps
  | [] => by simp
  | q :: t => by
    have h := pg_kr_ge (L := L) t
    have h2 : 0 < 2 ^ (L - q.2) := Nat.pow_pos (by decide)
    simp only [pg_kr] at h
    simp only [pg_kr, List.map_cons, List.sum_cons, List.length_cons]
    omega
theorem pg_kr_one {L : Nat} : ∀ (ps : List (Nat × Nat)) (q : Nat × Nat), q ∈ ps → 2 ^ (L - q.2) + ps.length ≤ pg_kr L ps + 1
  | [], q, h => by simp at h
  | r :: t, q, h => by
    have h2 : 0 < 2 ^ (L - r.2) := Nat.pow_pos (by decide)
    have h3 := pg_kr_ge (L := L) t
    simp only [pg_kr] at h3
    simp only [pg_kr, List.map_cons, List.sum_cons, List.length_cons]
    rcases List.mem_cons.mp h with h | h
    · rw [h]; omega
    · have := pg_kr_one (L := L) t q h
      simp only [pg_kr] at this
      omega
theorem pg_ca_le {L : Nat} : ∀ (ps : List (Nat × Nat)), (∀ q ∈ ps, q.2 ≤ L) → pg_ca ps ≤ (ps.map Prod.fst).sum * L
  | [], _ => by simp [pg_ca]
  | q :: t, h => by
    have h1 := pg_ca_le t (fun r hr => h r (List.mem_cons_of_mem _ hr))
    have h2 := Nat.mul_le_mul_left q.1 (h q List.mem_cons_self)
    simp only [pg_ca] at h1
    simp only [pg_ca, List.map_cons, List.sum_cons, Nat.add_mul]
    omega
/-- a selection out of the lengths -/
def pg_sel (ps : List (Nat × Nat)) : Nat → Nat → List Nat
  | _, 0 => []
  | d, k + 1 => ps.countP (fun q => decide (d < q.2)) :: pg_sel ps (d + 1) k
theorem pg_sel_len (ps : List (Nat × Nat)) : ∀ (d k : Nat), (pg_sel ps d k).length = k
  | _, 0 => rfl
  | d, k + 1 => by simp [pg_sel, pg_sel_len ps (d + 1) k]
theorem pg_sel_le (ps : List (Nat × Nat)) : ∀ (d k x : Nat), x ∈ pg_sel ps d k → x ≤ ps.length
  | _, 0, x, h => by simp [pg_sel] at h
  | d, k + 1, x, h => by
    simp only [pg_sel, List.mem_cons] at h
    rcases h with h | h
    · rw [h]; exact List.countP_le_length
    · exact pg_sel_le ps (d + 1) k x h
theorem pg_shift {w : Nat} {t : List Nat} (h : pg_asc (w :: t)) {c : Nat} (hc : c ≤ t.length) : pg_ps (w :: t) c ≤ pg_ps t c := by
  cases c with
  | zero => simp [pg_ps_0]
  | succ c =>
    have := pg_ps_step (pg_asc_cons h).1 (j := c) (by omega)
    rw [pg_ps_cons]
    omega
theorem pg_few (d : Nat) : ∀ ps : List (Nat × Nat), pg_asc (ps.map Prod.fst) → pg_ps (ps.map Prod.fst) (ps.countP (fun q => decide (d < q.2))) ≤ (ps.map (fun q => if d < q.2 then q.1 else 0)).sum
  | [], _ => by simp [pg_ps_nil]
  | q :: t, h => by
    have h1 := pg_few d t (pg_asc_cons h).2
    simp only [List.map_cons, List.countP_cons, List.sum_cons]
    by_cases hq : d < q.2
    · simp only [hq, decide_true, if_true]
      rw [pg_ps_cons]
      omega
    · simp only [hq, decide_false, if_false]
      have hc : t.countP (fun q => decide (d < q.2)) ≤ (t.map Prod.fst).length := by
        rw [List.length_map]; exact List.countP_le_length
      have h2 := pg_shift (w := q.1) (t := t.map Prod.fst) h hc
      simp only [Bool.false_eq_true, if_false, Nat.add_zero]
      omega
theorem pg_map_add {f g h : Nat × Nat → Nat} (e : ∀ q, f q + g q = h q) : ∀ ps : List (Nat × Nat), (ps.map f).sum + (ps.map g).sum = (ps.map h).sum
  | [] => by simp
  | q :: t => by
    have h1 := pg_map_add e t
    have h2 := e q
    simp only [List.map_cons, List.sum_cons]
    omega
theorem pg_sel_cost (ps : List (Nat × Nat)) (hs : pg_asc (ps.map Prod.fst)) : ∀ (k d : Nat), pg_cost (ps.map Prod.fst) (pg_sel ps d k) ≤ (ps.map (fun q => q.1 * min k (q.2 - d))).sum
  | 0, d => by simp [pg_sel, pg_cost]
  | k + 1, d => by
    have h1 := pg_sel_cost ps hs k (d + 1)
    have h2 := pg_few d ps hs
    have h3 := pg_map_add (f := fun q => if d < q.2 then q.1 else 0) (g := fun q => q.1 * min k (q.2 - (d + 1))) (h := fun q => q.1 * min (k + 1) (q.2 - d)) (fun q => by
      by_cases hq : d < q.2
      · simp only [if_pos hq]
        rw [show min (k + 1) (q.2 - d) = min k (q.2 - (d + 1)) + 1 by omega, Nat.mul_add]
        omega
      · simp only [if_neg hq]
        rw [show min (k + 1) (q.2 - d) = 0 by omega, show min k (q.2 - (d + 1)) = 0 by omega]
        omega) ps
    simp only [pg_sel, pg_cost]
    omega
theorem pg_count_sum (d P : Nat) : ∀ ps : List (Nat × Nat), (ps.map (fun q => if d < q.2 then P else 0)).sum = ps.countP (fun q => decide (d < q.2)) * P
  | [] => by simp
  | q :: t => by
    have h := pg_count_sum d P t
    simp only [List.map_cons, List.sum_cons, List.countP_cons, h]
    by_cases hq : d < q.2
    · simp only [hq, decide_true, if_true, Nat.add_mul]
      omega
    · simp [hq]
theorem pg_const_sum (P : Nat) : ∀ ps : List (Nat × Nat), (ps.map (fun _ => P)).sum = ps.length * P
  | [] => by simp
  | q :: t => by
    have h := pg_const_sum P t
    simp only [List.map_cons, List.sum_cons, List.length_cons, Nat.add_mul]
    omega
theorem pg_sel_wid (ps : List (Nat × Nat)) : ∀ (k d : Nat), pg_wid (pg_sel ps d k) + (ps.map (fun q => 2 ^ (k - min k (q.2 - d)))).sum = ps.length * 2 ^ k
  | 0, d => by
    have := pg_const_sum 1 ps
    simp [pg_sel, pg_wid]
    omega
  | k + 1, d => by
    have h1 := pg_sel_wid ps k (d + 1)
    have h2 := pg_count_sum d (2 ^ k) ps
    have h3 := pg_const_sum (2 ^ k) ps
    have h4 := pg_map_add (f := fun q => if d < q.2 then 2 ^ k else 0) (g := fun q => 2 ^ (k + 1 - min (k + 1) (q.2 - d))) (h := fun q => 2 ^ k + 2 ^ (k - min k (q.2 - (d + 1)))) (fun q => by
      by_cases hq : d < q.2
      · simp only [if_pos hq]
        rw [show k + 1 - min (k + 1) (q.2 - d) = k - min k (q.2 - (d + 1)) by omega]
      · simp only [if_neg hq]
        rw [show min (k + 1) (q.2 - d) = 0 by omega, show min k (q.2 - (d + 1)) = 0 by omega]
        simp only [Nat.sub_zero, Nat.pow_succ]
        omega) ps
    have h5 := pg_map_add (f := fun _ => 2 ^ k) (g := fun q => 2 ^ (k - min k (q.2 - (d + 1)))) (h := fun q => 2 ^ k + 2 ^ (k - min k (q.2 - (d + 1)))) (fun _ => rfl) ps
    simp only [pg_sel, pg_wid, pg_sel_len, Nat.pow_succ]
    have e : ps.length * (2 ^ k * 2) = ps.length * 2 ^ k * 2 := by rw [Nat.mul_assoc]
    omega
theorem pg_map_congr {f g : Nat × Nat → Nat} : ∀ ps : List (Nat × Nat), (∀ q ∈ ps, f q = g q) → (ps.map f).sum = (ps.map g).sum
  | [], _ => rfl
  | q :: t, h => by
    have h1 := pg_map_congr t (fun r hr => h r (List.mem_cons_of_mem _ hr))
    have h2 := h q List.mem_cons_self
    simp only [List.map_cons, List.sum_cons]
    omega
/-- PACKAGE-MERGE: the row of level L holds 2n - 2 numbers, and their sum is the least sum of lengths -/
theorem pg_main {L : Nat} {ws : List Nat} (hs : pg_asc ws) (hn : 2 ≤ ws.length) (hL : ws.length ≤ 2 ^ L) (hf : ws.sum * L < 1000000) :
    (pg_row ws (2 * ws.length - 2) L).length = 2 * ws.length - 2 ∧ (pg_row ws (2 * ws.length - 2) L).sum = pg_dp L ws (2 ^ L) := by
  have hlen : (pg_row ws (2 * ws.length - 2) L).length = 2 * ws.length - 2 := by
    have h1 := pg_row_len hn L (2 * ws.length - 2) (Nat.le_refl _) (by
      rw [Nat.sub_mul]
      have : 2 * ws.length * 2 ^ L ≥ 2 * 2 ^ L := Nat.mul_le_mul_right _ (by omega)
      omega)
    have h2 : (pg_row ws (2 * ws.length - 2) L).length ≤ 2 * ws.length - 2 := by
      cases L with
      | zero => simp [pg_row]
      | succ L => simp only [pg_row, pg_mrg_len]; omega
    omega
  refine ⟨hlen, ?_⟩
  have hsum : (pg_row ws (2 * ws.length - 2) L).sum = pg_ps (pg_row ws (2 * ws.length - 2) L) (2 * ws.length - 2) := by
    rw [pg_ps, List.take_of_length_le (by omega)]
  rw [hsum]
  obtain ⟨a, e1, e2, e3, e4⟩ := pg_att (ws := ws) (2 * ws.length - 2) L (2 * ws.length - 2) (by omega)
  have e3' : pg_wid a + 2 ^ L = ws.length * 2 ^ L := by
    rw [Nat.sub_mul] at e3
    have h1 : 2 * ws.length * 2 ^ L = ws.length * 2 ^ L * 2 := by rw [Nat.mul_assoc, Nat.mul_comm]
    have h2 : 2 * 2 ^ L ≤ ws.length * 2 ^ L := Nat.mul_le_mul_right _ hn
    omega
  have hkr := pg_asg_kr a 0 ws
  rw [pg_sv_wid a e2, e1] at hkr
  have hkr2 : pg_kr L (pg_asg a 0 ws) ≤ 2 ^ L := by omega
  have hok : pg_ok L (pg_asg a 0 ws) := fun q hq => by
    refine ⟨?_, e1 ▸ pg_asg_mem a 0 ws q hq⟩
    have h1 := pg_kr_one (L := L) _ q hq
    rw [pg_asg_len] at h1
    rcases Nat.eq_zero_or_pos q.2 with h | h
    · rw [h, Nat.sub_zero] at h1
      omega
    · exact h
  have hle := pg_dp_le (pg_asg a 0 ws) (2 ^ L) hok hkr2
  rw [pg_asg_fst, pg_asg_ca, e4] at hle
  have hfar : pg_dp L ws (2 ^ L) < 1000000 := by
    have h1 := pg_ca_le (L := L) (pg_asg a 0 ws) (fun q hq => (hok q hq).2)
    rw [pg_asg_fst, pg_asg_ca, e4] at h1
    omega
  obtain ⟨ps, f1, f2, f3, f4⟩ := pg_dp_att ws (2 ^ L) hfar
  have hpl : ps.length = ws.length := by rw [← f1, List.length_map]
  have g1 := pg_sel_wid ps L 0
  have g2 := pg_sel_cost ps (by rw [f1]; exact hs) L 0
  have g3 : (ps.map (fun q => 2 ^ (L - min L (q.2 - 0)))).sum = pg_kr L ps := pg_map_congr ps (fun q hq => by
    have := (f2 q hq).2
    rw [show L - min L (q.2 - 0) = L - q.2 by omega])
  have g4 : (ps.map (fun q => q.1 * min L (q.2 - 0))).sum = pg_ca ps := pg_map_congr ps (fun q hq => by
    have := (f2 q hq).2
    rw [show min L (q.2 - 0) = q.2 by omega])
  rw [g3, hpl] at g1
  rw [g4, f1, f4] at g2
  have hlow := pg_low hs hn (pg_sel ps 0 L) (fun x hx => hpl ▸ pg_sel_le ps 0 L x hx) (2 * ws.length - 2) (by rw [pg_sel_len]; omega) (by
    rw [pg_sel_len, Nat.sub_mul]
    have h1 : 2 * ws.length * 2 ^ L = ws.length * 2 ^ L * 2 := by rw [Nat.mul_assoc, Nat.mul_comm]
    omega)
  rw [pg_sel_len] at hlow
  omega
/-- more symbols than words: no code -/
theorem pg_none {L : Nat} {ws : List Nat} (h : 2 ^ L < ws.length) : pg_dp L ws (2 ^ L) = 1000000 := by
  have h1 := pg_dp_cap L ws (2 ^ L)
  rcases Nat.lt_or_ge (pg_dp L ws (2 ^ L)) 1000000 with h2 | h2
  · obtain ⟨ps, f1, f2, f3, f4⟩ := pg_dp_att ws (2 ^ L) h2
    have h3 := pg_kr_ge (L := L) ps
    rw [← f1, List.length_map] at h
    omega
  · omega

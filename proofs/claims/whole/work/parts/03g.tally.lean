/-! the tally, and package-merge over rows: pure -/
/-- the counts in falling order, the last first -/
def fal (fa : Nat → Int) : Nat → List Nat
  | 0 => []
  | k + 1 => (fa k).toNat :: fal fa k
theorem fal_len (fa : Nat → Int) : ∀ k, (fal fa k).length = k
  | 0 => rfl
  | k + 1 => by simp [fal, fal_len fa k]
theorem fal_congr {fa fb : Nat → Int} : ∀ k, (∀ i, i < k → fa i = fb i) → fal fa k = fal fb k
  | 0, _ => rfl
  | k + 1, h => by rw [fal, fal, h k (by omega), fal_congr k (fun i hi => h i (by omega))]
theorem fal_mem {fa : Nat → Int} {x : Nat} : ∀ k, x ∈ fal fa k → ∃ i, i < k ∧ (fa i).toNat = x
  | 0, h => by simp [fal] at h
  | k + 1, h => by
    simp only [fal, List.mem_cons] at h
    rcases h with h | h
    · exact ⟨k, by omega, h.symm⟩
    · obtain ⟨i, h1, h2⟩ := fal_mem k h
      exact ⟨i, by omega, h2⟩
theorem fal_asc {fa : Nat → Int} : ∀ k, (∀ i j, i < j → j < k → fa j ≤ fa i) → pg_asc (fal fa k)
  | 0, _ => by simp [fal, pg_asc]
  | k + 1, h => by
    refine List.pairwise_cons.mpr ⟨fun x hx => ?_, fal_asc k (fun i j h1 h2 => h i j h1 (by omega))⟩
    obtain ⟨i, h1, h2⟩ := fal_mem k hx
    have := h i k h1 (by omega)
    omega
theorem fal_set {fa : Nat → Int} {v : Int} {i : Nat} : ∀ k, i < k → ∃ rest : List Nat, (fal fa k).Perm ((fa i).toNat :: rest) ∧ (fal (va_up fa i v) k).Perm (v.toNat :: rest)
  | 0, h => by omega
  | k + 1, h => by
    by_cases e : i = k
    · subst e
      refine ⟨fal fa i, List.Perm.refl _, ?_⟩
      rw [fal, up_self, fal_congr i (fun j hj => up_ne fa v (show j ≠ i by omega))]
    · obtain ⟨rest, h1, h2⟩ := fal_set (fa := fa) (v := v) (i := i) k (by omega)
      refine ⟨(fa k).toNat :: rest, ?_, ?_⟩
      · rw [fal]
        exact (h1.cons _).trans (List.Perm.swap _ _ _)
      · rw [fal, up_ne fa v (show k ≠ i by omega)]
        exact (h2.cons _).trans (List.Perm.swap _ _ _)
theorem posl_keep {c : Nat → Nat} {x w : Nat} : ∀ r, r ≤ 16 → x < 16 - r → posl (va_up c x w) r = posl c r
  | 0, _, _ => rfl
  | r + 1, hr, hx => by
    rw [posl, posl, posl_keep r (by omega) (by omega), va_up_ne c w (show 15 - r ≠ x by omega)]
theorem posl_new {c : Nat → Nat} {x : Nat} (h0 : c x = 0) : ∀ r, r ≤ 16 → 16 - r ≤ x → x < 16 → (posl (va_up c x 1) r).Perm (1 :: posl c r)
  | 0, _, h1, h2 => by omega
  | r + 1, hr, h1, h2 => by
    rw [posl, posl]
    by_cases e : 15 - r = x
    · rw [e, va_up_self, if_neg (by decide), if_pos h0, posl_keep r (by omega) (by omega)]
    · rw [va_up_ne c 1 e]
      have ih := posl_new h0 r (by omega) (by omega) h2
      by_cases g : c (15 - r) = 0
      · rw [if_pos g, if_pos g]; exact ih
      · rw [if_neg g, if_neg g]; exact (ih.cons _).trans (List.Perm.swap _ _ _)
theorem posl_more {c : Nat → Nat} {x w : Nat} (h0 : c x = w) (hw : w ≠ 0) : ∀ r, r ≤ 16 → 16 - r ≤ x → x < 16 → ∃ rest : List Nat, (posl c r).Perm (w :: rest) ∧ (posl (va_up c x (w + 1)) r).Perm ((w + 1) :: rest)
  | 0, _, h1, h2 => by omega
  | r + 1, hr, h1, h2 => by
    rw [posl, posl]
    by_cases e : 15 - r = x
    · rw [e, va_up_self, h0, if_neg hw, if_neg (by omega), posl_keep r (by omega) (by omega)]
      exact ⟨posl c r, List.Perm.refl _, List.Perm.refl _⟩
    · rw [va_up_ne c _ e]
      obtain ⟨rest, q1, q2⟩ := posl_more h0 hw r (by omega) (by omega) h2
      by_cases g : c (15 - r) = 0
      · rw [if_pos g, if_pos g]; exact ⟨rest, q1, q2⟩
      · rw [if_neg g, if_neg g]
        exact ⟨c (15 - r) :: rest, (q1.cons _).trans (List.Perm.swap _ _ _), (q2.cons _).trans (List.Perm.swap _ _ _)⟩
theorem knd_keep {c : Nat → Nat} {x w : Nat} (h : (c x = 0 ↔ w = 0)) : ∀ k, knd (va_up c x w) k = knd c k
  | 0 => rfl
  | k + 1 => by
    rw [knd, knd, knd_keep h k]
    by_cases e : k = x
    · subst e
      rw [va_up_self]
      by_cases g : w = 0
      · rw [if_pos g, if_pos (h.mpr g)]
      · rw [if_neg g, if_neg (fun q => g (h.mp q))]
    · rw [va_up_ne c w e]
theorem knd_new {c : Nat → Nat} {x : Nat} (h : c x = 0) : ∀ k, knd (va_up c x 1) k = knd c k + (if x < k then 1 else 0)
  | 0 => by simp [knd]
  | k + 1 => by
    rw [knd, knd, knd_new h k]
    by_cases e : k = x
    · subst e
      rw [va_up_self, if_neg (by omega), if_neg (by omega), if_pos h, if_pos (by omega)]
    · rw [va_up_ne c 1 e]
      by_cases g : x < k
      · rw [if_pos g, if_pos (show x < k + 1 by omega)]; omega
      · rw [if_neg g, if_neg (show ¬ x < k + 1 by omega)]; omega
/-- what a tally holds of the counts c -/
def TL (c : Nat → Nat) (cn fa : Nat → Int) (kd : Nat) : Prop := (∀ j, j < 16 → cn j = ((c j : Nat) : Int)) ∧ kd = knd c 16 ∧ (∀ i j, i < j → j < kd → fa j ≤ fa i) ∧ (∀ i, i < kd → 1 ≤ fa i) ∧ (fal fa kd).Perm (posl c 16)
theorem TL_0 {cn fa : Nat → Int} (h : ∀ j, j < 16 → cn j = 0) : TL (fun _ => 0) cn fa 0 := by
  refine ⟨h, by decide, fun i j h1 h2 => by omega, fun i h1 => by omega, ?_⟩
  have : posl (fun _ => 0) 16 = [] := by decide
  rw [this]
  exact List.Perm.refl _
theorem TL_new {c : Nat → Nat} {cn fa : Nat → Int} {kd x : Nat} (h : TL c cn fa kd) (hx : x < 16) (h0 : c x = 0) : TL (va_up c x (c x + 1)) (va_up cn x (cn x + 1)) (va_up fa kd 1) (kd + 1) := by
  obtain ⟨q1, q2, q3, q4, q5⟩ := h
  rw [h0]
  refine ⟨fun j hj => ?_, ?_, fun i j h1 h2 => ?_, fun i h1 => ?_, ?_⟩
  · by_cases e : j = x
    · subst e; rw [up_self, va_up_self, q1 j hj, h0]; rfl
    · rw [up_ne _ _ e, va_up_ne _ _ e]; exact q1 j hj
  · rw [knd_new h0, if_pos hx, q2]
  · rw [up_ne _ _ (show i ≠ kd by omega)]
    by_cases e : j = kd
    · subst e; rw [up_self]; exact q4 i h1
    · rw [up_ne _ _ e]; exact q3 i j h1 (by omega)
  · by_cases e : i = kd
    · subst e; rw [up_self]; omega
    · rw [up_ne _ _ e]; exact q4 i (by omega)
  · rw [fal, up_self, fal_congr kd (fun i hi => up_ne fa 1 (show i ≠ kd by omega))]
    exact (q5.cons _).trans (posl_new h0 16 (by omega) (by omega) hx).symm
theorem TL_more {c : Nat → Nat} {cn fa : Nat → Int} {kd x i : Nat} (h : TL c cn fa kd) (hx : x < 16) (h0 : c x ≠ 0) (hi : i < kd) (hfi : fa i = cn x) (hfirst : ∀ j, j < i → fa j ≠ cn x) : TL (va_up c x (c x + 1)) (va_up cn x (cn x + 1)) (va_up fa i (cn x + 1)) kd := by
  obtain ⟨q1, q2, q3, q4, q5⟩ := h
  have hcx := q1 x hx
  refine ⟨fun j hj => ?_, ?_, fun a b h1 h2 => ?_, fun a h1 => ?_, ?_⟩
  · by_cases e : j = x
    · subst e; rw [up_self, va_up_self, hcx]; omega
    · rw [up_ne _ _ e, va_up_ne _ _ e]; exact q1 j hj
  · rw [knd_keep (by omega)]; exact q2
  · by_cases e1 : a = i
    · subst e1
      rw [up_self, up_ne _ _ (show b ≠ a by omega)]
      have := q3 a b h1 h2
      omega
    · rw [up_ne _ _ e1]
      by_cases e2 : b = i
      · subst e2
        rw [up_self]
        have := q3 a b h1 h2
        have := hfirst a h1
        omega
      · rw [up_ne _ _ e2]; exact q3 a b h1 h2
  · by_cases e : a = i
    · subst e; rw [up_self]; omega
    · rw [up_ne _ _ e]; exact q4 a h1
  · obtain ⟨r1, p1, p2⟩ := fal_set (fa := fa) (v := cn x + 1) kd hi
    obtain ⟨r2, p3, p4⟩ := posl_more (c := c) (x := x) rfl h0 16 (by omega) (by omega) hx
    rw [hfi, hcx, Int.toNat_natCast] at p1
    rw [hcx, show (((c x : Nat) : Int) + 1).toNat = c x + 1 by omega] at p2
    have hr : r1.Perm r2 := List.Perm.cons_inv (p1.symm.trans (q5.trans p3))
    rw [hcx]
    exact p2.trans ((hr.cons _).trans p4.symm)
theorem TL_has {c : Nat → Nat} {cn fa : Nat → Int} {kd x : Nat} (h : TL c cn fa kd) (hx : x < 16) (h0 : c x ≠ 0) : ∃ i, i < kd ∧ fa i = cn x := by
  obtain ⟨q1, q2, q3, q4, q5⟩ := h
  obtain ⟨r2, p3, p4⟩ := posl_more (c := c) (x := x) rfl h0 16 (by omega) (by omega) hx
  have hm : c x ∈ fal fa kd := (q5.trans p3).mem_iff.mpr List.mem_cons_self
  obtain ⟨i, h1, h2⟩ := fal_mem kd hm
  have h3 := q4 i h1
  have h4 := q1 x hx
  exact ⟨i, h1, by omega⟩
theorem TL_kd {c : Nat → Nat} {cn fa : Nat → Int} {kd : Nat} (h : TL c cn fa kd) : kd ≤ 16 := by
  have := knd_le c 16
  have := h.2.1
  omega
theorem TL_len {c : Nat → Nat} {cn fa : Nat → Int} {kd : Nat} (h : TL c cn fa kd) : (posl c 16).length = kd := by rw [← h.2.2.2.2.length_eq, fal_len]
theorem TL_sum {c : Nat → Nat} {cn fa : Nat → Int} {kd : Nat} (h : TL c cn fa kd) : (fal fa kd).sum = (posl c 16).sum := h.2.2.2.2.sum_nat
theorem fal_le {fa : Nat → Int} : ∀ k i, i < k → (fa i).toNat ≤ (fal fa k).sum
  | 0, i, h => by omega
  | k + 1, i, h => by
    rw [fal, List.sum_cons]
    by_cases e : i = k
    · subst e; omega
    · have := fal_le (fa := fa) k i (by omega); omega
/-- counts over a stretch of text sum to its length -/
theorem posl_sum (c : Nat → Nat) : ∀ r, r ≤ 16 → (posl c r).sum + (if r = 16 then 0 else 0) = (posl c r).sum := fun r _ => by split <;> rfl
def csum (c : Nat → Nat) : Nat → Nat
  | 0 => 0
  | r + 1 => c (15 - r) + csum c r
theorem posl_csum (c : Nat → Nat) : ∀ r, (posl c r).sum = csum c r
  | 0 => rfl
  | r + 1 => by
    rw [posl, csum]
    by_cases e : c (15 - r) = 0
    · rw [if_pos e, posl_csum c r, e]; omega
    · rw [if_neg e, List.sum_cons, posl_csum c r]
theorem ct_front (tx : Nat → Int) (a s : Nat) : ∀ m, ct tx a s (m + 1) = (if tx a = (s : Int) then 1 else 0) + ct tx (a + 1) s m
  | 0 => by simp [ct]
  | m + 1 => by
    rw [ct, ct_front tx a s m, ct, show a + (m + 1) = a + 1 + m by omega]
    omega
theorem cta_front {tx : Nat → Int} {a b : Nat} (h : a < b) (ht : 0 ≤ tx a) : va_up (cta tx (a + 1) b) (tx a).toNat (cta tx (a + 1) b (tx a).toNat + 1) = cta tx a b := by
  funext s
  have h1 := ct_front tx a s (b - (a + 1))
  rw [show b - (a + 1) + 1 = b - a by omega] at h1
  by_cases e : s = (tx a).toNat
  · subst e
    rw [va_up_self]
    simp only [cta]
    rw [h1, if_pos (by omega)]
    omega
  · rw [va_up_ne _ _ e]
    simp only [cta]
    rw [h1, if_neg (by omega)]
    omega
theorem cta_back {tx : Nat → Int} {a k : Nat} (h : a ≤ k) (ht : 0 ≤ tx k) : va_up (cta tx a k) (tx k).toNat (cta tx a k (tx k).toNat + 1) = cta tx a (k + 1) := by
  funext s
  have h1 := ct_step tx a s k h
  by_cases e : s = (tx k).toNat
  · subst e
    rw [va_up_self]
    simp only [cta]
    rw [h1, if_pos (by omega)]
  · rw [va_up_ne _ _ e]
    simp only [cta]
    rw [h1, if_neg (by omega)]
    omega
theorem cta_nil (tx : Nat → Int) (a : Nat) : cta tx a a = fun _ => 0 := by
  funext s
  simp only [cta, Nat.sub_self, ct]
theorem cta_le (tx : Nat → Int) (a b s : Nat) : cta tx a b s ≤ b - a := ct_le tx a s (b - a)
/-- at least one symbol in a block that isn't empty -/
theorem knd_pos {c : Nat → Nat} {x : Nat} (h : c x ≠ 0) : ∀ k, x < k → 1 ≤ knd c k
  | 0, h2 => by omega
  | k + 1, h2 => by
    rw [knd]
    by_cases e : x = k
    · subst e; rw [if_neg h]; omega
    · have := knd_pos h k (by omega); omega
theorem cta_pos {tx : Nat → Int} {a b : Nat} (h : a < b) (ht : 0 ≤ tx a ∧ tx a ≤ 15) : 1 ≤ knd (cta tx a b) 16 := by
  refine knd_pos (x := (tx a).toNat) ?_ 16 (by omega)
  rw [← cta_front h ht.1, va_up_self]
  omega
def csl (tx : Nat → Int) (a b : Nat) : Nat := csum (cta tx a b) 16
theorem csum_zero : ∀ r, csum (fun _ => 0) r = 0
  | 0 => rfl
  | r + 1 => by rw [csum, csum_zero r]
theorem csum_inc {c : Nat → Nat} {x : Nat} : ∀ r, r ≤ 16 → csum (va_up c x (c x + 1)) r ≤ csum c r + 1
  | 0, _ => by simp [csum]
  | r + 1, hr => by
    have h := csum_inc (c := c) (x := x) r (by omega)
    rw [csum, csum]
    by_cases e : 15 - r = x
    · have h2 : csum (va_up c x (c x + 1)) r = csum c r := by
        have key : ∀ q, q ≤ r → csum (va_up c x (c x + 1)) q = csum c q := by
          intro q
          induction q with
          | zero => intro _; rfl
          | succ q ih =>
            intro hq
            rw [csum, csum, ih (by omega), va_up_ne _ _ (show 15 - q ≠ x by omega)]
        exact key r (Nat.le_refl _)
      rw [e, va_up_self, h2]
      omega
    · rw [va_up_ne _ _ e]; omega
theorem csum_cta (tx : Nat → Int) (a : Nat) : ∀ m, (∀ j, a ≤ j → j < a + m → 0 ≤ tx j) → csum (cta tx a (a + m)) 16 ≤ m
  | 0, _ => by rw [Nat.add_zero, cta_nil, csum_zero]; omega
  | m + 1, h => by
    have h1 := csum_cta tx a m (fun j h2 h3 => h j h2 (by omega))
    have h2 := cta_back (tx := tx) (a := a) (k := a + m) (by omega) (h (a + m) (by omega) (by omega))
    rw [show a + (m + 1) = a + m + 1 by omega, ← h2]
    have h3 := csum_inc (c := cta tx a (a + m)) (x := (tx (a + m)).toNat) 16 (by omega)
    omega
theorem posl_sum_cta {tx : Nat → Int} {a b n : Nat} (hab : a ≤ b) (hbn : b ≤ n) (htx : ∀ j, j < n → 0 ≤ tx j ∧ tx j ≤ 15) : (posl (cta tx a b) 16).sum ≤ b - a := by
  rw [posl_csum]
  have := csum_cta tx a (b - a) (fun j _ h2 => (htx j (by omega)).1)
  rw [show a + (b - a) = b by omega] at this
  exact this

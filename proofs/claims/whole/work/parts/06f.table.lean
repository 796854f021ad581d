/-! the table of blocks, the splitter: pure -/
def tri : Nat → Nat
  | 0 => 0
  | e + 1 => tri e + e
theorem tri_eq : ∀ e, e * (e - 1) / 2 = tri e
  | 0 => rfl
  | 1 => rfl
  | e + 2 => by
    have h := tri_eq (e + 1)
    rw [tri, ← h]
    have e1 : (e + 2) * (e + 2 - 1) = (e + 1) * (e + 1 - 1) + 2 * (e + 1) := by
      rw [show e + 2 - 1 = e + 1 by omega, show e + 1 - 1 = e by omega, Nat.mul_comm (e + 1) e, ← Nat.add_mul, Nat.add_comm]
    rw [e1]
    omega
theorem tri_mono : ∀ b a, a < b → tri a + a ≤ tri b
  | 0, a, h => by omega
  | b + 1, a, h => by
    rw [tri]
    by_cases e : a = b
    · rw [e]; exact Nat.le_refl _
    · have := tri_mono b a (by omega); omega
theorem tri_80 {e : Nat} (h : e ≤ 80) : tri e + e ≤ 3240 := by
  have h1 := tri_mono 81 e (by omega)
  have h2 : tri 81 = 3240 := by decide
  omega
def smv (tx : Nat → Int) (L a b : Nat) : Int := if 2 ^ L < knd (cta tx a b) 16 then -1 else ((pg_dp L (posl (cta tx a b) 16) (2 ^ L) : Nat) : Int)
theorem ct_congr {tx ty : Nat → Int} {a s : Nat} : ∀ k, (∀ i, i < k → tx (a + i) = ty (a + i)) → ct tx a s k = ct ty a s k
  | 0, _ => rfl
  | k + 1, h => by rw [ct, ct, ct_congr k (fun i hi => h i (by omega)), h k (by omega)]
theorem cta_congr {tx ty : Nat → Int} {a b : Nat} (h : ∀ i, i < b → tx i = ty i) : cta tx a b = cta ty a b := by
  funext s
  exact ct_congr _ (fun i hi => h _ (by omega))
theorem smv_congr {tx ty : Nat → Int} {L a b : Nat} (h : ∀ i, i < b → tx i = ty i) : smv tx L a b = smv ty L a b := by
  rw [smv, smv, cta_congr h]
/-- the rows of the blocks that end at 1, .., e -/
def BT (tx sm ks : Nat → Int) (e L : Nat) : Prop := ∀ b, 1 ≤ b → b ≤ e → ∀ a, a < b → sm (tri b + a) = smv tx L a b ∧ ks (tri b + a) = ((knd (cta tx a b) 16 : Nat) : Int)
theorem BT_congr {tx ty sm ks : Nat → Int} {e L : Nat} (h : BT tx sm ks e L) {e' : Nat} (he : e' ≤ e) (hxy : ∀ i, i < e' → tx i = ty i) : BT ty sm ks e' L := by
  intro b h1 h2 a h3
  have q := h b h1 (by omega) a h3
  rw [smv_congr (fun i hi => hxy i (by omega)), cta_congr (fun i hi => hxy i (show i < e' by omega))] at q
  exact q
theorem BT_step {tx sm ks sm1 ks1 : Nat → Int} {e L : Nat} (h : BT tx sm ks e L) (hk : ∀ i, i < tri (e + 1) → sm1 i = sm i ∧ ks1 i = ks i) (hn : ∀ a, a < e + 1 → sm1 (tri (e + 1) + a) = smv tx L a (e + 1) ∧ ks1 (tri (e + 1) + a) = ((knd (cta tx a (e + 1)) 16 : Nat) : Int)) : BT tx sm1 ks1 (e + 1) L := by
  intro b h1 h2 a h3
  by_cases g : b = e + 1
  · subst g; exact hn a h3
  · have h4 := tri_mono (e + 1) b (by omega)
    have h5 := hk (tri b + a) (by omega)
    rw [h5.1, h5.2]
    exact h b h1 (by omega) a h3
theorem posl_knd (c : Nat → Nat) : ∀ r, r ≤ 16 → (posl c r).length + knd c (16 - r) = knd c 16
  | 0, _ => by simp [posl]
  | r + 1, hr => by
    have h := posl_knd c r (by omega)
    rw [show 16 - r = (16 - (r + 1)) + 1 by omega, knd] at h
    rw [posl, show 15 - r = 16 - (r + 1) by omega]
    by_cases e : c (16 - (r + 1)) = 0
    · rw [if_pos e] at h ⊢; omega
    · rw [if_neg e] at h ⊢; rw [List.length_cons]; omega
theorem posl_len (c : Nat → Nat) : (posl c 16).length = knd c 16 := by
  have := posl_knd c 16 (Nat.le_refl _)
  simpa [knd] using this
theorem knd_le_of {c d : Nat → Nat} (h : ∀ s, c s ≤ d s) : ∀ k, knd c k ≤ knd d k
  | 0 => Nat.le_refl _
  | k + 1 => by
    have h1 := knd_le_of h k
    have h2 := h k
    rw [knd, knd]
    by_cases e : c k = 0
    · rw [if_pos e]; split <;> omega
    · rw [if_neg e, if_neg (by omega)]; omega
theorem ct_mono (tx : Nat → Int) (a s : Nat) : ∀ d m, ct tx a s m ≤ ct tx a s (m + d)
  | 0, m => Nat.le_refl _
  | d + 1, m => by
    have := ct_mono tx a s d m
    rw [show m + (d + 1) = (m + d) + 1 by omega, ct]
    omega
theorem cta_mono {tx : Nat → Int} {a b b' : Nat} (h : b ≤ b') (s : Nat) : cta tx a b s ≤ cta tx a b' s := by
  have := ct_mono tx a s (b' - a - (b - a)) (b - a)
  simp only [cta]
  rw [show b - a + (b' - a - (b - a)) = b' - a by omega] at this
  exact this
theorem knd_mono {tx : Nat → Int} {a b b' : Nat} (h : b ≤ b') : knd (cta tx a b) 16 ≤ knd (cta tx a b') 16 := knd_le_of (cta_mono h) 16
theorem bkc_far {tx : Nat → Int} {L hd pr a b : Nat} (h : 2 ^ L < knd (cta tx a b) 16) : 1000000 ≤ bkc tx L hd pr a b := by
  rw [bkc, bk, pg_none (by rw [posl_len]; exact h)]
  omega
theorem sp_stop {co BC BB : Nat → Nat} {a k : Nat} (h : ∀ b, a + k < b → 1000000 ≤ co b) : ∀ m, sp co BC BB a (k + m) = sp co BC BB a k
  | 0 => rfl
  | m + 1 => by
    rw [show k + (m + 1) = (k + m) + 1 by omega, sp, if_neg (by have := h (a + (k + m) + 1) (by omega); omega), sp_stop h m]
/-- a code that there is costs at most six bits a place -/
theorem pg_dp_feas {L : Nat} {ws : List Nat} (hL : 1 ≤ L) (h : ws.length ≤ 2 ^ L) : pg_dp L ws (2 ^ L) ≤ ws.sum * L := by
  have key : pg_kr L (ws.map (fun w => (w, L))) ≤ 2 ^ L := by
    have : pg_kr L (ws.map (fun w => (w, L))) = ws.length := by
      clear h
      induction ws with
      | nil => rfl
      | cons w t ih => simp only [pg_kr, List.map_cons, List.sum_cons] at ih ⊢; rw [ih]; simp; omega
    omega
  have h2 := pg_dp_le (L := L) (ws.map (fun w => (w, L))) (2 ^ L) (fun q hq => by
    obtain ⟨w, _, hw⟩ := List.mem_map.mp hq
    rw [← hw]; exact ⟨hL, Nat.le_refl _⟩) key
  have h3 : (ws.map (fun w => (w, L))).map Prod.fst = ws := by
    rw [List.map_map]
    exact List.map_id ws
  rw [h3] at h2
  have h4 := pg_ca_le (L := L) (ws.map (fun w => (w, L))) (fun q hq => by
    obtain ⟨w, _, hw⟩ := List.mem_map.mp hq
    rw [← hw]; exact Nat.le_refl _)
  rw [h3] at h4
  omega
theorem bkc_near {tx : Nat → Int} {n L hd pr a b : Nat} (hn : n ≤ 80) (hL : 1 ≤ L ∧ L ≤ 6) (hh : hd ≤ 200) (hp : pr ≤ 20) (hab : a ≤ b) (hbn : b ≤ n) (htx : ∀ j, j < n → 0 ≤ tx j ∧ tx j ≤ 15) (h : knd (cta tx a b) 16 ≤ 2 ^ L) : bkc tx L hd pr a b ≤ 1000 ∧ pg_dp L (posl (cta tx a b) 16) (2 ^ L) ≤ 480 := by
  have h1 := pg_dp_feas (L := L) (ws := posl (cta tx a b) 16) hL.1 (by rw [posl_len]; exact h)
  have h2 := posl_sum_cta hab hbn htx
  have h3 : (posl (cta tx a b) 16).sum * L ≤ 80 * 6 := Nat.mul_le_mul (by omega) hL.2
  have h4 := knd_le (cta tx a b) 16
  have h5 : pr * knd (cta tx a b) 16 ≤ 20 * 16 := Nat.mul_le_mul hp h4
  rw [bkc, bk]
  omega

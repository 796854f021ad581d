/-! what the class and the reference have in common between two calls -/
def SET (n L hd pr gr : Nat) : Prop := n ≤ 80 ∧ (1 ≤ L ∧ L ≤ 6) ∧ hd ≤ 200 ∧ pr ≤ 20 ∧ (1 ≤ gr ∧ gr ≤ 80)
def TXR (tx : Nat → Int) (n : Nat) : Prop := ∀ j, j < n → 0 ≤ tx j ∧ tx j ≤ 15
def PLR (tx : Nat → Int) (n L hd pr gr nb : Nat) (co : Int) (sa ba ln wd : Nat → Int) (nb2 : Nat) (co2 : Int) (st ln2 wd2 : Nat → Int) : Prop :=
  nb = nbk tx n L hd pr gr ∧ co = (((bs tx n L hd pr gr 0).1 : Nat) : Int) ∧ nb2 = nbk tx n L hd pr gr ∧ co2 = (((bs tx n L hd pr gr 0).1 : Nat) : Int) ∧
  (∀ j, j < nbk tx n L hd pr gr → sa j = ((ps tx n L hd pr gr j : Nat) : Int)) ∧ (∀ k, k < n → ba k = ((bof tx n L hd pr gr k : Nat) : Int)) ∧ (∀ x, x < 16 * nbk tx n L hd pr gr → ln x = pln tx n L hd pr gr x ∧ wd x = pwd tx n L hd pr gr x) ∧
  (∀ j, j ≤ nbk tx n L hd pr gr → st j = ((ps tx n L hd pr gr j : Nat) : Int)) ∧ ∀ x, x < 16 * nbk tx n L hd pr gr → ln2 x = pln tx n L hd pr gr x ∧ wd2 x = pwd tx n L hd pr gr x
def BIR (bt : Nat) (bi bi2 : Nat → Int) : Prop := bt ≤ 480 ∧ ∀ i, i < bt → bi i = bi2 i ∧ 0 ≤ bi i ∧ bi i ≤ 1
def GOR (gt : Nat) (go go2 : Nat → Int) : Prop := gt ≤ 80 ∧ ∀ i, i < gt → go i = go2 i ∧ 0 ≤ go i ∧ go i ≤ 15
def TBR (kn kl : Nat) (kt sm ks : Nat → Int) : Prop := kn ≤ 80 ∧ (∀ j, j < kn → 0 ≤ kt j ∧ kt j ≤ 15) ∧ kl ≤ 6 ∧ BT kt sm ks kn kl
def LEZ (le : Nat → Int) : Prop := ∀ i, i < 65 → le i = 0
def REL (tx : Nat → Int) (n L hd pr gr : Nat) (md : Int) (nb : Nat) (co : Int) (sa ba ln wd : Nat → Int) (bt : Nat) (bi : Nat → Int) (gt : Nat) (go : Nat → Int) (kn kl : Nat) (kt sm ks le : Nat → Int) (nb2 : Nat) (co2 : Int) (st ln2 wd2 bi2 go2 : Nat → Int) : Prop :=
  SET n L hd pr gr ∧ TXR tx n ∧ ((md = 0 ∧ bt = 0) ∨ (md = 1 ∧ PLR tx n L hd pr gr nb co sa ba ln wd nb2 co2 st ln2 wd2)) ∧ BIR bt bi bi2 ∧ GOR gt go go2 ∧ TBR kn kl kt sm ks ∧ LEZ le ∧ nb2 ≤ 80
section RL
variable {tx : Nat → Int} {n L hd pr gr : Nat} {md : Int} {nb : Nat} {co : Int} {sa ba ln wd : Nat → Int} {bt : Nat} {bi : Nat → Int} {gt : Nat} {go : Nat → Int} {kn kl : Nat} {kt sm ks le : Nat → Int} {nb2 : Nat} {co2 : Int} {st ln2 wd2 bi2 go2 : Nat → Int}
/-- no plan -/
theorem REL_drop (h1 : SET n L hd pr gr) (h2 : TXR tx n) (h3 : GOR gt go go2) (h4 : TBR kn kl kt sm ks) (h5 : LEZ le) (h6 : nb2 ≤ 80) : REL tx n L hd pr gr 0 nb co sa ba ln wd 0 bi gt go kn kl kt sm ks le nb2 co2 st ln2 wd2 bi2 go2 :=
  ⟨h1, h2, Or.inl ⟨rfl, rfl⟩, ⟨by omega, fun i h => absurd h (by omega)⟩, h3, h4, h5, h6⟩
theorem TXR_fw {g : Nat → Int} {y : Nat} (h : TXR tx n) (hg : ∀ k, k < y → 0 ≤ g k ∧ g k ≤ 15) : TXR (fw tx n g y) (n + y) := by
  intro j hj
  by_cases e : j < n
  · rw [fw_out _ _ _ _ _ (Or.inl e)]; exact h j e
  · obtain ⟨i, rfl⟩ : ∃ i, j = n + i := ⟨j - n, by omega⟩
    rw [fw_in _ _ _ _ _ (by omega)]; exact hg i (by omega)
theorem TXR_up {x : Nat} {y : Int} (h : TXR tx n) (hy : 0 ≤ y ∧ y ≤ 15) : TXR (va_up tx x y) n := up_keep (P := fun _ z => 0 ≤ z ∧ z ≤ 15) h (fun _ => hy)
theorem TXR_cut {x : Nat} (h : TXR tx n) : TXR tx (n - x) := fun j hj => h j (by omega)
/-- what a plan gives -/
theorem PLR_facts (hs : SET n L hd pr gr) (ht : TXR tx n) (h : PLR tx n L hd pr gr nb co sa ba ln wd nb2 co2 st ln2 wd2) :
    (nb ≤ 80 ∧ nb2 = nb ∧ co2 = co) ∧ (∀ k, k < n → ba k = ((bof tx n L hd pr gr k : Nat) : Int)) ∧ (∀ j, j ≤ nb2 → st j = ((ps tx n L hd pr gr j : Nat) : Int)) ∧
    (ps tx n L hd pr gr 0 = 0 ∧ ps tx n L hd pr gr nb2 = n ∧ ∀ j, j < nb2 → ps tx n L hd pr gr j < ps tx n L hd pr gr (j + 1)) ∧ (∀ j, j ≤ nb2 → ps tx n L hd pr gr j ≤ n) ∧
    (∀ j, j < nb2 → ∀ k, ps tx n L hd pr gr j ≤ k → k < ps tx n L hd pr gr (j + 1) → bof tx n L hd pr gr k = j) ∧
    (∀ b, b < nb → ∀ j, j < 16 → (0 ≤ ln (16 * b + j) ∧ ln (16 * b + j) ≤ L) ∧ (-1 ≤ wd (16 * b + j) ∧ wd (16 * b + j) ≤ 5000)) ∧
    (∀ b, b < nb2 → ∀ j, j < 16 → (0 ≤ ln2 (16 * b + j) ∧ ln2 (16 * b + j) ≤ L) ∧ (-1 ≤ wd2 (16 * b + j) ∧ wd2 (16 * b + j) ≤ 5000)) ∧
    (∀ k, k < n → bof tx n L hd pr gr k < 80 ∧ 1 ≤ ln (16 * bof tx n L hd pr gr k + (tx k).toNat) ∧ ln (16 * bof tx n L hd pr gr k + (tx k).toNat) ≤ 6 ∧ 0 ≤ wd (16 * bof tx n L hd pr gr k + (tx k).toNat) ∧ wd (16 * bof tx n L hd pr gr k + (tx k).toNat) ≤ 5000) ∧
    (∀ k, k < n → bof tx n L hd pr gr k < 80 ∧ 1 ≤ ln2 (16 * bof tx n L hd pr gr k + (tx k).toNat) ∧ ln2 (16 * bof tx n L hd pr gr k + (tx k).toNat) ≤ 6 ∧ 0 ≤ wd2 (16 * bof tx n L hd pr gr k + (tx k).toNat) ∧ wd2 (16 * bof tx n L hd pr gr k + (tx k).toNat) ≤ 5000) ∧
    (∀ x, x < 16 * nb → ln x = ln2 x ∧ wd x = wd2 x) ∧ (∀ j, j < nb → sa j = st j) ∧ (∀ k, k < n → bof tx n L hd pr gr k < nb) := by
  obtain ⟨hn, hL, hh, hp, hg⟩ := hs
  obtain ⟨rfl, rfl, rfl, rfl, h5, h6, h7, h8, h9⟩ := h
  have hnb := nbk_le hn hL.1 hh hp hg.1 ht
  have hbo := bof_ok hn hL.1 hh hp hg.1 ht
  have hrng : ∀ b, b < nbk tx n L hd pr gr → ∀ j, j < 16 → (0 ≤ pln tx n L hd pr gr (16 * b + j) ∧ pln tx n L hd pr gr (16 * b + j) ≤ L) ∧ (-1 ≤ pwd tx n L hd pr gr (16 * b + j) ∧ pwd tx n L hd pr gr (16 * b + j) ≤ 5000) := fun b hb j hj => pl_rng hn hL hh hp hg.1 ht hb hj
  have hus : ∀ k, k < n → bof tx n L hd pr gr k < 80 ∧ 1 ≤ pln tx n L hd pr gr (16 * bof tx n L hd pr gr k + (tx k).toNat) ∧ pln tx n L hd pr gr (16 * bof tx n L hd pr gr k + (tx k).toNat) ≤ 6 ∧ 0 ≤ pwd tx n L hd pr gr (16 * bof tx n L hd pr gr k + (tx k).toNat) ∧ pwd tx n L hd pr gr (16 * bof tx n L hd pr gr k + (tx k).toNat) ≤ 5000 := fun k hk => by
    have q1 := hbo k hk
    have q2 := ht k hk
    have q3 := hrng _ q1.1 (tx k).toNat (by omega)
    have q4 := pl_used hn hL hh hp hg.1 ht hk
    omega
  refine ⟨⟨by omega, rfl, rfl⟩, h6, h8, ⟨rfl, ps_last hn hL.1 hh hp hg.1 ht, fun j hj => (ps_step hn hL.1 hh hp hg.1 ht hj).1⟩, fun j hj => (ps_ok hn hL.1 hh hp hg.1 ht j hj).1, fun j hj k h1 h2 => bof_uni hn hL.1 hh hp hg.1 ht hj h1 h2, fun b hb j hj => ?_, fun b hb j hj => ?_, fun k hk => ?_, fun k hk => ?_, fun x hx => ?_, fun j hj => ?_, fun k hk => (hbo k hk).1⟩
  · have q := h7 (16 * b + j) (by omega); rw [q.1, q.2]; exact hrng b hb j hj
  · have q := h9 (16 * b + j) (by omega); rw [q.1, q.2]; exact hrng b hb j hj
  · have q1 := (hbo k hk).1
    have q2 := ht k hk
    have q := h7 (16 * bof tx n L hd pr gr k + (tx k).toNat) (by omega); rw [q.1, q.2]; exact hus k hk
  · have q1 := (hbo k hk).1
    have q2 := ht k hk
    have q := h9 (16 * bof tx n L hd pr gr k + (tx k).toNat) (by omega); rw [q.1, q.2]; exact hus k hk
  · have q1 := h7 x hx; have q2 := h9 x hx; rw [q1.1, q1.2, q2.1, q2.2]; exact ⟨rfl, rfl⟩
  · rw [h5 j hj, h8 j (by omega)]
end RL
theorem hB_rel {f g : Nat → Int} {w : List Int} {a b : Int} (h1 : hB f w) (h2 : hB g w) (h : ∀ x ∈ w, a ≤ x ∧ x ≤ b) : ∀ i, i < w.length → f i = g i ∧ a ≤ f i ∧ f i ≤ b := by
  intro i hi
  have h3 := h1 i hi
  have h4 := h2 i hi
  rw [List.getD_eq_getElem?_getD, List.getElem?_eq_getElem hi, Option.getD_some] at h3 h4
  rw [h3, h4]
  exact ⟨rfl, h _ (List.getElem_mem hi)⟩
theorem rsy_ok (B f g : Nat → Int) (bt p : Nat) : ∀ (k : Nat) (v : Int) (j : Nat), p + j ≤ bt → p + (rsy B f g bt p k v j).2 ≤ bt ∧ ((rsy B f g bt p k v j).1 = -1 ∨ (0 ≤ (rsy B f g bt p k v j).1 ∧ (rsy B f g bt p k v j).1 ≤ 15))
  | 0, _, j, h => ⟨h, Or.inl rfl⟩
  | k + 1, v, j, h => by
    rw [rsy]
    by_cases e : p + j = bt
    · rw [if_pos e]; exact ⟨h, Or.inl rfl⟩
    · rw [if_neg e]
      by_cases e2 : sof f g ((j + 1 : Nat) : Int) (2 * v + B (p + j)) 0 16 = -1
      · rw [if_pos e2]; exact rsy_ok B f g bt p k _ (j + 1) (by omega)
      · rw [if_neg e2]
        refine ⟨by simp only; omega, Or.inr ?_⟩
        rcases sof_spec f g ((j + 1 : Nat) : Int) (2 * v + B (p + j)) 16 0 with q | ⟨i, q1, q2, q3, -⟩
        · exact absurd q e2
        · simp only; omega
theorem rdl_ok (B ln wd : Nat → Int) (bo : Nat → Nat) (bt L : Nat) : ∀ (m k p : Nat), p ≤ bt → (rdl B ln wd bo bt L m k p).length ≤ m ∧ ∀ x ∈ rdl B ln wd bo bt L m k p, 0 ≤ x ∧ x ≤ 15
  | 0, _, _, _ => ⟨Nat.le_refl _, fun x h => by simp [rdl] at h⟩
  | m + 1, k, p, hp => by
    rw [rdl]
    have h := rsy_ok B (fun s => ln (16 * bo k + s)) (fun s => wd (16 * bo k + s)) bt p L 0 0 (by omega)
    by_cases e : (rsy B (fun s => ln (16 * bo k + s)) (fun s => wd (16 * bo k + s)) bt p L 0 0).1 = -1
    · rw [if_pos e]; exact ⟨by simp, fun x h => by simp at h⟩
    · rw [if_neg e]
      have h2 := rdl_ok B ln wd bo bt L m (k + 1) _ h.1
      refine ⟨by simp only [List.length_cons]; omega, fun x hx => ?_⟩
      rcases List.mem_cons.mp hx with q | q
      · rw [q]; exact h.2.resolve_left e
      · exact h2.2 x q
theorem rdl_congr {B B' ln wd ln' wd' : Nat → Int} {bo : Nat → Nat} {bt L n : Nat} (hB : ∀ i, i < bt → B i = B' i) (hc : ∀ k, k < n → ∀ j, j < 16 → ln (16 * bo k + j) = ln' (16 * bo k + j) ∧ wd (16 * bo k + j) = wd' (16 * bo k + j)) : ∀ (m k p : Nat), k + m ≤ n → p ≤ bt → rdl B ln wd bo bt L m k p = rdl B' ln' wd' bo bt L m k p
  | 0, _, _, _, _ => rfl
  | m + 1, k, p, hk, hp => by
    have e := rsy_congr (B := B) (B' := B') (f := fun s => ln (16 * bo k + s)) (g := fun s => wd (16 * bo k + s)) (f' := fun s => ln' (16 * bo k + s)) (g' := fun s => wd' (16 * bo k + s)) (bt := bt) (p := p) hB (hc k (by omega)) L 0 0 (by omega)
    have h := rsy_ok B' (fun s => ln' (16 * bo k + s)) (fun s => wd' (16 * bo k + s)) bt p L 0 0 (by omega)
    rw [rdl, rdl, e]
    by_cases e2 : (rsy B' (fun s => ln' (16 * bo k + s)) (fun s => wd' (16 * bo k + s)) bt p L 0 0).1 = -1
    · rw [if_pos e2, if_pos e2]
    · rw [if_neg e2, if_neg e2, rdl_congr hB hc m (k + 1) _ (by omega) h.1]
theorem BIR_flip {bt x : Nat} {bi bi2 : Nat → Int} (h : BIR bt bi bi2) (hx : x < bt) : BIR bt (va_up bi x (1 - bi x)) (va_up bi2 x (1 - bi2 x)) := by
  refine ⟨h.1, fun i hi => ?_⟩
  have h1 := h.2 i hi
  have h2 := h.2 x hx
  by_cases e : i = x
  · subst e; rw [up_self, up_self]; omega
  · rw [up_ne _ _ e, up_ne _ _ e]; exact h1

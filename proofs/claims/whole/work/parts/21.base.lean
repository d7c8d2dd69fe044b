/-! loops, ranges, truth values -/
theorem lp_for {S : Type} {b : (S → Prop) → S → Prop} (N : Nat) (st : Nat → S) (hs : ∀ j, j < N → ∀ K : S → Prop, K (st (j + 1)) → b K (st j)) (he : ∀ K : S → Prop, b K (st N)) : ∃ n, zz_lp b n (st 0) := by
  have key : ∀ (m j : Nat), j + m = N → zz_lp b (m + 1) (st j) := by
    intro m
    induction m with
    | zero => intro j hj; have e : j = N := by omega
              subst e; exact he _
    | succ m ih => intro j hj; exact hs j (by omega) _ (ih (j + 1) (by omega))
  exact ⟨N + 1, key N 0 (by omega)⟩
theorem lp_inv {S : Type} {b : (S → Prop) → S → Prop} (N : Nat) (I : Nat → S → Prop) {s0 : S} (h0 : I 0 s0) (hs : ∀ (j : Nat) (s : S) (K : S → Prop), j < N → I j s → (∀ s', I (j + 1) s' → K s') → b K s) (he : ∀ (s : S) (K : S → Prop), I N s → b K s) : ∃ n, zz_lp b n s0 := by
  have key : ∀ (m j : Nat) (s : S), j + m = N → I j s → zz_lp b (m + 1) s := by
    intro m
    induction m with
    | zero => intro j s hj hI; have e : j = N := by omega
              subst e; exact he _ _ hI
    | succ m ih => intro j s hj hI; exact hs j s _ (by omega) hI (fun s' h => ih (j + 1) s' (by omega) h)
  exact ⟨N + 1, key N 0 s0 (by omega) h0⟩
def zb (x : Int32) (lo hi : Int) : Prop := lo ≤ x.toInt ∧ x.toInt ≤ hi
theorem zt_lit (n : Nat) (h : n < 2147483648) : (OfNat.ofNat n : Int32).toInt = n := nI_toInt h
theorem zb_nI {x : Int32} {n : Nat} (h : zb x 0 n) : ∃ j : Nat, j ≤ n ∧ x = nI j := by
  obtain ⟨h1, h2⟩ := h
  have h3 := fb_rng x
  refine ⟨x.toInt.toNat, by omega, ?_⟩
  rw [fa_eq, nI_toInt (by omega)]
  omega
theorem nI_zb {j : Nat} {n : Int} (h : (j : Int) ≤ n) (hj : j < 2147483648) : zb (nI j) 0 n := by
  unfold zb
  rw [nI_toInt hj]
  omega
theorem zb_in {x : Int32} {n : Nat} (h0 : 0 ≤ x.toInt) (h1 : x.toInt < n) : vp_in x n := vp_in_iff.mpr ⟨h0, h1⟩
theorem in_nI {j n : Nat} (h : j < n) (hn : n < 2147483648) : vp_in (nI j) n := vp_in_nI h hn
theorem zz_z0 : zz_z 0 = True := eq_true rfl
theorem zz_z1 : zz_z 1 = True := eq_true rfl
theorem zz_zi (c : Prop) [Decidable c] : zz_z (if c then 1 else 0) = True := by
  by_cases h : c
  · rw [if_pos h]; exact zz_z1
  · rw [if_neg h]; exact zz_z0
theorem zz_i0 (c : Prop) [Decidable c] : ((if c then (1 : Int32) else 0) = 0) = ¬ c := by
  by_cases h : c
  · rw [if_pos h]; simp [h]
  · rw [if_neg h]; simp [h]
theorem sto_eq (h : zz_H) (k : Nat) (g : Nat → Int32) (P : zz_H → Prop) : zz_sto h k g P = P (zz_st h k g) := rfl
theorem within_eq (x lo hi : Int32) (h : zz_H) (post : Int32 → Prop) : wX4_within x lo hi h post = post (if lo ≤ x ∧ x ≤ hi then 1 else 0) := by
  unfold wX4_within
  apply propext
  by_cases h1 : x < lo
  · have : ¬ (lo ≤ x ∧ x ≤ hi) := fun q => (fa_of_lt h1).2.1 q.1
    simp [h1, this]
  · have h2 := fa_of_nlt h1
    by_cases h3 : hi < x
    · have : ¬ (lo ≤ x ∧ x ≤ hi) := fun q => (fa_of_lt h3).2.1 q.2
      simp [h1, h3, this]
    · have : lo ≤ x ∧ x ≤ hi := ⟨h2, fa_of_nlt h3⟩
      simp [h1, h3, this]
theorem in_eq (x : Int32) (lo hi : Int64) (h : zz_H) (post : Int32 → Prop) : wX5_in x.toInt64 lo hi h post = post (if lo ≤ x.toInt64 ∧ x.toInt64 ≤ hi then 1 else 0) := by
  unfold wX5_in
  have e1 : (lg_cmp x.toInt64 lo < 0) = ¬ (lo ≤ x.toInt64) := by
    apply propext
    rw [← lg_cmp_ge]
    constructor
    · intro h q; exact (fa_of_lt h).2.1 q
    · exact fa_of_nle
  have e2 : (0 < lg_cmp x.toInt64 hi) = ¬ (x.toInt64 ≤ hi) := by
    apply propext
    unfold lg_cmp
    simp only [gt_iff_lt, Int64.lt_iff_toInt_lt, Int64.le_iff_toInt_le, ← Int64.toInt_inj]
    repeat' split
    all_goals (constructor <;> intro hh <;> first | omega | decide | exact absurd hh (by decide))
  rw [e1, e2]
  apply propext
  by_cases h1 : lo ≤ x.toInt64 <;> by_cases h2 : x.toInt64 ≤ hi <;> simp [h1, h2]
theorem wl_ge0 (x : Int32) : ((0 : Int64) ≤ x.toInt64) = ((0 : Int32) ≤ x) := propext (by rw [show (0 : Int64) = (0 : Int32).toInt64 by decide]; exact fa_wide_le _ _)
theorem wl_le0 (x : Int32) : (x.toInt64 ≤ (0 : Int64)) = (x ≤ (0 : Int32)) := propext (by rw [show (0 : Int64) = (0 : Int32).toInt64 by decide]; exact fa_wide_le _ _)
theorem wl_ge1 (x : Int32) : ((1 : Int64) ≤ x.toInt64) = ((1 : Int32) ≤ x) := propext (by rw [show (1 : Int64) = (1 : Int32).toInt64 by decide]; exact fa_wide_le _ _)
theorem wl_le1 (x : Int32) : (x.toInt64 ≤ (1 : Int64)) = (x ≤ (1 : Int32)) := propext (by rw [show (1 : Int64) = (1 : Int32).toInt64 by decide]; exact fa_wide_le _ _)
theorem wl_ge3 (x : Int32) : ((3 : Int64) ≤ x.toInt64) = ((3 : Int32) ≤ x) := propext (by rw [show (3 : Int64) = (3 : Int32).toInt64 by decide]; exact fa_wide_le _ _)
theorem wl_le3 (x : Int32) : (x.toInt64 ≤ (3 : Int64)) = (x ≤ (3 : Int32)) := propext (by rw [show (3 : Int64) = (3 : Int32).toInt64 by decide]; exact fa_wide_le _ _)
theorem wl_ge4 (x : Int32) : ((4 : Int64) ≤ x.toInt64) = ((4 : Int32) ≤ x) := propext (by rw [show (4 : Int64) = (4 : Int32).toInt64 by decide]; exact fa_wide_le _ _)
theorem wl_le4 (x : Int32) : (x.toInt64 ≤ (4 : Int64)) = (x ≤ (4 : Int32)) := propext (by rw [show (4 : Int64) = (4 : Int32).toInt64 by decide]; exact fa_wide_le _ _)
theorem wl_ge5 (x : Int32) : ((5 : Int64) ≤ x.toInt64) = ((5 : Int32) ≤ x) := propext (by rw [show (5 : Int64) = (5 : Int32).toInt64 by decide]; exact fa_wide_le _ _)
theorem wl_le5 (x : Int32) : (x.toInt64 ≤ (5 : Int64)) = (x ≤ (5 : Int32)) := propext (by rw [show (5 : Int64) = (5 : Int32).toInt64 by decide]; exact fa_wide_le _ _)
theorem wl_ge6 (x : Int32) : ((6 : Int64) ≤ x.toInt64) = ((6 : Int32) ≤ x) := propext (by rw [show (6 : Int64) = (6 : Int32).toInt64 by decide]; exact fa_wide_le _ _)
theorem wl_le6 (x : Int32) : (x.toInt64 ≤ (6 : Int64)) = (x ≤ (6 : Int32)) := propext (by rw [show (6 : Int64) = (6 : Int32).toInt64 by decide]; exact fa_wide_le _ _)
theorem wl_ge7 (x : Int32) : ((7 : Int64) ≤ x.toInt64) = ((7 : Int32) ≤ x) := propext (by rw [show (7 : Int64) = (7 : Int32).toInt64 by decide]; exact fa_wide_le _ _)
theorem wl_le7 (x : Int32) : (x.toInt64 ≤ (7 : Int64)) = (x ≤ (7 : Int32)) := propext (by rw [show (7 : Int64) = (7 : Int32).toInt64 by decide]; exact fa_wide_le _ _)
theorem wl_ge9 (x : Int32) : ((9 : Int64) ≤ x.toInt64) = ((9 : Int32) ≤ x) := propext (by rw [show (9 : Int64) = (9 : Int32).toInt64 by decide]; exact fa_wide_le _ _)
theorem wl_le9 (x : Int32) : (x.toInt64 ≤ (9 : Int64)) = (x ≤ (9 : Int32)) := propext (by rw [show (9 : Int64) = (9 : Int32).toInt64 by decide]; exact fa_wide_le _ _)
theorem wl_ge12 (x : Int32) : ((12 : Int64) ≤ x.toInt64) = ((12 : Int32) ≤ x) := propext (by rw [show (12 : Int64) = (12 : Int32).toInt64 by decide]; exact fa_wide_le _ _)
theorem wl_le12 (x : Int32) : (x.toInt64 ≤ (12 : Int64)) = (x ≤ (12 : Int32)) := propext (by rw [show (12 : Int64) = (12 : Int32).toInt64 by decide]; exact fa_wide_le _ _)
theorem wl_ge40 (x : Int32) : ((40 : Int64) ≤ x.toInt64) = ((40 : Int32) ≤ x) := propext (by rw [show (40 : Int64) = (40 : Int32).toInt64 by decide]; exact fa_wide_le _ _)
theorem wl_le40 (x : Int32) : (x.toInt64 ≤ (40 : Int64)) = (x ≤ (40 : Int32)) := propext (by rw [show (40 : Int64) = (40 : Int32).toInt64 by decide]; exact fa_wide_le _ _)
theorem wl_ge48 (x : Int32) : ((48 : Int64) ≤ x.toInt64) = ((48 : Int32) ≤ x) := propext (by rw [show (48 : Int64) = (48 : Int32).toInt64 by decide]; exact fa_wide_le _ _)
theorem wl_le48 (x : Int32) : (x.toInt64 ≤ (48 : Int64)) = (x ≤ (48 : Int32)) := propext (by rw [show (48 : Int64) = (48 : Int32).toInt64 by decide]; exact fa_wide_le _ _)
theorem wl_ge57 (x : Int32) : ((57 : Int64) ≤ x.toInt64) = ((57 : Int32) ≤ x) := propext (by rw [show (57 : Int64) = (57 : Int32).toInt64 by decide]; exact fa_wide_le _ _)
theorem wl_le57 (x : Int32) : (x.toInt64 ≤ (57 : Int64)) = (x ≤ (57 : Int32)) := propext (by rw [show (57 : Int64) = (57 : Int32).toInt64 by decide]; exact fa_wide_le _ _)
theorem wl_ge97 (x : Int32) : ((97 : Int64) ≤ x.toInt64) = ((97 : Int32) ≤ x) := propext (by rw [show (97 : Int64) = (97 : Int32).toInt64 by decide]; exact fa_wide_le _ _)
theorem wl_le97 (x : Int32) : (x.toInt64 ≤ (97 : Int64)) = (x ≤ (97 : Int32)) := propext (by rw [show (97 : Int64) = (97 : Int32).toInt64 by decide]; exact fa_wide_le _ _)
theorem wl_ge100 (x : Int32) : ((100 : Int64) ≤ x.toInt64) = ((100 : Int32) ≤ x) := propext (by rw [show (100 : Int64) = (100 : Int32).toInt64 by decide]; exact fa_wide_le _ _)
theorem wl_le100 (x : Int32) : (x.toInt64 ≤ (100 : Int64)) = (x ≤ (100 : Int32)) := propext (by rw [show (100 : Int64) = (100 : Int32).toInt64 by decide]; exact fa_wide_le _ _)
theorem wl_ge122 (x : Int32) : ((122 : Int64) ≤ x.toInt64) = ((122 : Int32) ≤ x) := propext (by rw [show (122 : Int64) = (122 : Int32).toInt64 by decide]; exact fa_wide_le _ _)
theorem wl_le122 (x : Int32) : (x.toInt64 ≤ (122 : Int64)) = (x ≤ (122 : Int32)) := propext (by rw [show (122 : Int64) = (122 : Int32).toInt64 by decide]; exact fa_wide_le _ _)
theorem wl_ge400 (x : Int32) : ((400 : Int64) ≤ x.toInt64) = ((400 : Int32) ≤ x) := propext (by rw [show (400 : Int64) = (400 : Int32).toInt64 by decide]; exact fa_wide_le _ _)
theorem wl_le400 (x : Int32) : (x.toInt64 ≤ (400 : Int64)) = (x ≤ (400 : Int32)) := propext (by rw [show (400 : Int64) = (400 : Int32).toInt64 by decide]; exact fa_wide_le _ _)
theorem wl_gem1 (x : Int32) : ((-1 : Int64) ≤ x.toInt64) = ((-1 : Int32) ≤ x) := propext (by rw [show (-1 : Int64) = (-1 : Int32).toInt64 by decide]; exact fa_wide_le _ _)
theorem wl_ww (x y : Int32) : (x.toInt64 ≤ y.toInt64) = (x ≤ y) := propext (fa_wide_le _ _)

/-! a new pupil -/
def sbS (p q : Nat) (v : Int32) (g : Nat → Int32) : Nat → (Nat → Int32)
  | 0 => g
  | k + 1 => upd (sbS p q v g k) (16 * p + 2 * q + k) v
theorem c_setBoth {c : zz_H} {a p q : Nat} (hp : p < 12) (hq : q < 8) (v : Int32) (post : Int32 → zz_H → Prop) (k : post 0 (zz_st c (a + 4) (sbS p q v (c (a + 4)) 2))) : wX0_setBoth a (nI p) (nI q) v c post := by
  unfold wX0_setBoth
  have this := lp_for (b := fun K (s : Int32 × zz_H) => wX0_setBoth_b3 a (nI p) (nI q) v post K s.1 s.2) 2 (fun j => (nI j, zz_st c (a + 4) (sbS p q v (c (a + 4)) j))) ?_ ?_
  · have e : zz_st c (a + 4) (sbS p q v (c (a + 4)) 0) = c := st_id c (a + 4)
    rw [e] at this
    exact this
  · intro j hj K hK
    have hK : K (nI (j + 1), zz_st c (a + 4) (upd (sbS p q v (c (a + 4)) j) (16 * p + 2 * q + j) v)) := hK
    refine ⟨fun z => absurd z (lt_nle (N := 2) hj (by decide)), fun _ => ?_⟩
    dsimp only
    rw [spot_eq, ix_spot, nI_clamp (by omega), sto_eq, zz_st_self, st_st, nI_1]
    exact ⟨in_nI (by omega) (by decide), hK⟩
  · intro K
    exact ⟨fun _ => k, fun z => absurd (show nI 2 ≤ nI 2 from nI_le (Nat.le_refl 2) (by decide)) z⟩
def nP (s : Nat → Int32) (P : Nat) (k : Int32) : Nat → Int32 := fun i => if i = 17 then nI (P + 1) else if i = 19 + 17 * P then k else if 19 + 17 * P < i ∧ i < 36 + 17 * P then 0 else s i
theorem nP_ne {s : Nat → Int32} {P : Nat} {k : Int32} {i : Nat} (h1 : i ≠ 17) (h2 : i < 19 + 17 * P ∨ 36 + 17 * P ≤ i) : nP s P k i = s i := by
  unfold nP
  rw [if_neg h1, if_neg (by omega), if_neg (by omega)]
theorem nP_17 (s : Nat → Int32) (P : Nat) (k : Int32) : nP s P k 17 = nI (P + 1) := if_pos rfl
theorem nP_k (s : Nat → Int32) (P : Nat) (k : Int32) : nP s P k (19 + 17 * P) = k := by
  unfold nP
  rw [if_neg (by omega), if_pos rfl]
theorem nP_0 {s : Nat → Int32} {P : Nat} {k : Int32} {i : Nat} (h1 : 19 + 17 * P < i) (h2 : i < 36 + 17 * P) : nP s P k i = 0 := by
  unfold nP
  rw [if_neg (by omega), if_neg (by omega), if_pos ⟨h1, h2⟩]
theorem WF.newP {s : Nat → Int32} {P C : Nat} (h : WF s P C) (hP : P < 12) {k : Int32} (hk : zb k 0 3) : WF (nP s P k) (P + 1) C := by
  obtain ⟨h1, h2, h3, h4, h5, h6, h7, h8, h9, h10⟩ := h
  refine ⟨nP_17 _ _ _, by omega, by rw [nP_ne (by omega) (by omega)]; exact h3, h4, fun q hq => ?_, fun q hq => ?_, fun p hp => ?_, fun p q j hp hq hj => ?_, fun j hj => ?_, fun j hj => ?_⟩
  · rw [nP_ne (by omega) (by omega)]; exact h5 q hq
  · rw [nP_ne (by omega) (by omega)]; exact h6 q hq
  · by_cases e : p = P
    · subst e; rw [nP_k]; exact hk
    · rw [nP_ne (by omega) (by omega)]; exact h7 p (by omega)
  · rw [nP_ne (i := q) (by omega) (by omega)]
    by_cases e : p = P
    · subst e
      rw [nP_0 (by omega) (by omega)]
      have := h5 q hq
      exact ⟨by decide, this.1⟩
    · rw [nP_ne (by omega) (by omega)]; exact h8 p q j (by omega) hq hj
  · rw [nP_ne (by omega) (by omega), nP_ne (by omega) (by omega)]; exact h9 j hj
  · rw [nP_ne (by omega) (by omega)]; exact h10 j hj
theorem PM.newP {c c' : zz_H} {a : Nat} {s g : Nat → Int32} {P C : Nat} (h : PM c a s P C) (hP : P < 12) (hC : C ≤ 6) (k : Int32) (g0 : ∀ i, i < 16 * P → g i = c (a + 4) i) (g1 : ∀ i, 16 * P ≤ i → i < 16 * P + 16 → g i = 0) (ea : c' a = upd (c a) 7 (nI (P + 1))) (e3 : c' (a + 3) = upd (c (a + 3)) P k) (e4 : c' (a + 4) = g) (f : ∀ j, j ≠ a → j ≠ a + 3 → j ≠ a + 4 → c' j = c j) : PM c' a (nP s P k) (P + 1) C := by
  obtain ⟨h1, h2, h3, h4, h5, h6, h7, h8, h9⟩ := h
  refine ⟨?_, ?_, ?_, fun q hq => ?_, fun q hq => ?_, fun p hp => ?_, fun p q j hp hq hj => ?_, fun j hj => ?_, fun j hj => ?_⟩
  · rw [ea, pk_us]
  · rw [ea, pk_un (by decide)]; exact h2
  · rw [ea, pk_un (by decide), nP_ne (by omega) (by omega)]; exact h3
  · rw [f _ (by omega) (by omega) (by omega), nP_ne (by omega) (by omega)]; exact h4 q hq
  · rw [f _ (by omega) (by omega) (by omega), nP_ne (by omega) (by omega)]; exact h5 q hq
  · rw [e3]
    by_cases e : p = P
    · subst e; rw [pk_us, nP_k]
    · rw [pk_un e, nP_ne (by omega) (by omega)]; exact h6 p (by omega)
  · rw [e4]
    by_cases e : p = P
    · subst e; rw [g1 _ (by omega) (by omega), nP_0 (by omega) (by omega)]
    · rw [g0 _ (by omega), nP_ne (by omega) (by omega)]; exact h7 p q j (by omega) hq hj
  · rw [f _ (by omega) (by omega) (by omega), f _ (by omega) (by omega) (by omega), nP_ne (by omega) (by omega), nP_ne (by omega) (by omega)]; exact h8 j hj
  · rw [f _ (by omega) (by omega) (by omega), nP_ne (by omega) (by omega)]; exact h9 j hj
theorem c_addPupil {c : zz_H} {a : Nat} {s : Nat → Int32} {P C : Nat} (hM : PM c a s P C) (hP : P < 12) (hC : C ≤ 6) (k : Int32) (post : Int32 → zz_H → Prop) (kk : ∀ c', OP a c c' → PM c' a (nP s P k) (P + 1) C → post (nI P) c') : wX0_addPupil a k c post := by
  unfold wX0_addPupil
  refine lp_inv 8 (fun j z => z.1 = nI j ∧ ∃ g : Nat → Int32, z.2 = zz_st c (a + 4) g ∧ (∀ i, i < 16 * P → g i = c (a + 4) i) ∧ ∀ i, 16 * P ≤ i → i < 16 * P + 2 * j → g i = 0) ⟨rfl, c (a + 4), (st_id c (a + 4)).symm, fun _ _ => rfl, fun i h1 h2 => absurd h2 (by omega)⟩ ?_ ?_
  · rintro j ⟨x, h⟩ K hj ⟨e1, g, e2, g0, g1⟩ hK
    dsimp only at e1 e2
    subst e1 e2
    refine ⟨fun z => absurd z (lt_nle (N := 8) hj (by decide)), fun _ => ?_⟩
    dsimp only
    rw [show c a 7 = nI P from hM.1]
    refine c_setBoth hP hj _ _ ?_
    rw [zz_st_self, st_st]
    refine hK _ ⟨nI_1 j, _, rfl, fun i hi => ?_, fun i h1 h2 => ?_⟩
    · show upd (upd g (16 * P + 2 * j + 0) 0) (16 * P + 2 * j + 1) 0 i = _
      rw [pk_un (by omega), pk_un (by omega)]
      exact g0 i hi
    · show upd (upd g (16 * P + 2 * j + 0) 0) (16 * P + 2 * j + 1) 0 i = _
      by_cases w : i = 16 * P + 2 * j + 1
      · rw [w, pk_us]
      · rw [pk_un w]
        by_cases w' : i = 16 * P + 2 * j + 0
        · rw [w', pk_us]
        · rw [pk_un w']
          exact g1 i h1 (by omega)
  · rintro ⟨x, h⟩ K ⟨e1, g, e2, g0, g1⟩
    dsimp only at e1 e2
    subst e1 e2
    refine ⟨fun _ => ?_, fun z => absurd (show nI 8 ≤ nI 8 from nI_le (Nat.le_refl 8) (by decide)) z⟩
    unfold wX0_addPupil_j26
    dsimp only
    rw [show c a 7 = nI P from hM.1]
    refine ⟨in_nI hP (by decide), ?_⟩
    rw [sto_eq, sto_eq, nI_clamp (by omega)]
    simp (disch := omega) only [zz_st_ne]
    rw [show c a 7 = nI P from hM.1, nI_1]
    refine kk _ ?_ (hM.newP hP hC k g0 g1 (zz_st_self _ _ _) ?_ ?_ (fun j h1 h2 h3 => ?_))
    · exact (((OP.rf a c).st (by omega) _).st (by omega) _).st (by omega) _
    · rw [zz_st_ne _ _ (by omega), zz_st_self]
    · rw [zz_st_ne _ _ (by omega), zz_st_ne _ _ (by omega), zz_st_self]
    · rw [zz_st_ne _ _ h1, zz_st_ne _ _ h2, zz_st_ne _ _ h3]
def npZ (s : Nat → Int32) (P : Nat) (k : Int32) (j : Nat) : Nat → Int32 := fun i => if i = 19 + 17 * P then k else if 19 + 17 * P < i ∧ i < 20 + 17 * P + j then 0 else s i
theorem npZ_0 (s : Nat → Int32) (P : Nat) (k : Int32) : npZ s P k 0 = upd s (19 + 17 * P) k := by
  funext i
  unfold npZ
  by_cases e : i = 19 + 17 * P
  · rw [if_pos e, e, pk_us]
  · rw [if_neg e, if_neg (by omega), pk_un e]
theorem npZ_s (s : Nat → Int32) (P : Nat) (k : Int32) (j : Nat) : upd (npZ s P k j) (19 + 17 * P + (j + 1)) 0 = npZ s P k (j + 1) := by
  funext i
  by_cases e : i = 19 + 17 * P + (j + 1)
  · rw [e, pk_us]
    unfold npZ
    rw [if_neg (by omega), if_pos (by omega)]
  · rw [pk_un e]
    unfold npZ
    by_cases e2 : i = 19 + 17 * P
    · rw [if_pos e2, if_pos e2]
    · rw [if_neg e2, if_neg e2]
      by_cases e3 : 19 + 17 * P < i ∧ i < 20 + 17 * P + j
      · rw [if_pos e3, if_pos (by omega)]
      · rw [if_neg e3, if_neg (by omega)]
theorem npZ_e (s : Nat → Int32) (P : Nat) (k : Int32) : upd (npZ s P k 16) 17 (nI (P + 1)) = nP s P k := by
  funext i
  unfold nP
  by_cases e : i = 17
  · rw [if_pos e, e, pk_us]
  · rw [if_neg e, pk_un e]
    unfold npZ
    by_cases e2 : i = 19 + 17 * P
    · rw [if_pos e2, if_pos e2]
    · rw [if_neg e2, if_neg e2]
      by_cases e3 : 19 + 17 * P < i ∧ i < 36 + 17 * P
      · rw [if_pos e3, if_pos (by omega)]
      · rw [if_neg e3, if_neg (by omega)]
theorem m_newPupil {m : zz_H} {P : Nat} (e : m 1 17 = nI P) (hP : P < 12) (k : Int32) (post : Int32 → zz_H → Prop) (kk : post (nI P) (zz_st m 1 (nP (m 1) P k))) : wX5_newPupil k m post := by
  unfold wX5_newPupil
  rw [e, ix_pup, nI_clamp (by omega), sto_eq]
  refine ⟨in_nI (by omega) (by decide), ?_⟩
  have this := lp_for (b := fun K (s : Int32 × zz_H) => wX5_newPupil_b23 m post K s.1 s.2) 16 (fun j => (nI (j + 1), zz_st m 1 (npZ (m 1) P k j))) ?_ ?_
  · have z0 : zz_st m 1 (npZ (m 1) P k 0) = zz_st m 1 (upd (m 1) (19 + 17 * P) k) := by rw [npZ_0]
    rw [z0] at this
    exact this
  · intro j hj K hK
    rw [← npZ_s] at hK
    refine ⟨fun z => absurd (show nI 17 ≤ nI (j + 1) from z) (lt_nle (by omega) (by decide)), fun _ => ?_⟩
    dsimp only
    rw [e, ix_pup, nI_add, nI_clamp (by omega), sto_eq, zz_st_self, st_st, nI_1]
    exact ⟨in_nI (by omega) (by decide), hK⟩
  · intro K
    refine ⟨fun _ => ?_, fun z => absurd (show nI 17 ≤ nI (16 + 1) from nI_le (Nat.le_refl 17) (by decide)) z⟩
    unfold wX5_newPupil_j44
    dsimp only
    rw [sto_eq, zz_st_self, st_st, zz_st_self]
    have e17 : npZ (m 1) P k 16 17 = nI P := by
      unfold npZ
      rw [if_neg (by omega), if_neg (by omega)]
      exact e
    rw [e17, nI_1, npZ_e, nP_17, show nI (P + 1) - 1 = nI P from nI_pred P]
    exact kk
set_option maxRecDepth 20000 in
set_option maxHeartbeats 4000000 in
theorem op_pupil {c m : zz_H} (hR : Rel c m) (p1 : Int32) : wX4_pupil p1 c (fun r c' => wX5_pupil p1 m (fun r' m' => r = r' ∧ Rel c' m')) := by
  obtain ⟨⟨P, C, hW, hM⟩, hK, hF, hT, hS⟩ := id hR
  have eP : c 1 7 = nI P := hM.1
  have eC : c 1 8 = nI C := hM.2.1
  have eP' : m 1 17 = nI P := hW.1
  have eC' : m 1 18 = nI C := hW.2.2.1
  have bP : P ≤ 12 := hW.2.1
  have bC : C ≤ 6 := hW.2.2.2.1
  unfold wX4_pupil wX5_pupil 
  by_cases h0 : (0 : Int32) ≤ p1 ∧ p1 ≤ 3
  case neg =>
    simp only [tell0, tell1, tell2, tell3, tell4, tell5, tell6, finds0, finds1, finds2, finds3, finds4, finds5, finds6, c_isQuestion, c_isMarker, c_isKind, c_isBy, c_isLine, c_isSpot, c_isSheet, c_isPupil, c_isCurve, m_isQuestion, m_isLine, m_isOne, m_isPupil, m_isCurve, within_eq, in_eq, wl_ge0, wl_ge1, wl_le1, wl_le3, wl_le4, wl_le5, wl_le6, wl_le7, wl_le9, wl_le12, wl_le40, wl_le100, wl_le400, wl_gem1, wl_ww, zz_10, not_false_eq_true, not_true_eq_false, true_and, and_true, false_implies, true_implies, forall_const, eP, eC, eP', eC', if_neg h0]
    exact hR.find (i := 0) (by decide)
  simp only [tell0, tell1, tell2, tell3, tell4, tell5, tell6, finds0, finds1, finds2, finds3, finds4, finds5, finds6, c_isQuestion, c_isMarker, c_isKind, c_isBy, c_isLine, c_isSpot, c_isSheet, c_isPupil, c_isCurve, m_isQuestion, m_isLine, m_isOne, m_isPupil, m_isCurve, within_eq, in_eq, wl_ge0, wl_ge1, wl_le1, wl_le3, wl_le4, wl_le5, wl_le6, wl_le7, wl_le9, wl_le12, wl_le40, wl_le100, wl_le400, wl_gem1, wl_ww, zz_10, not_false_eq_true, not_true_eq_false, true_and, and_true, false_implies, true_implies, forall_const, eP, eC, eP', eC', if_pos h0]
  by_cases hP : P = 12
  · subst hP
    refine ⟨fun h => absurd h (by decide), fun _ => ⟨fun h => absurd rfl h, fun _ => hR.find (i := 1) (by decide)⟩⟩
  · refine ⟨fun _ => c_addPupil hM (by omega) bC p1 _ (fun c' ho hm => ⟨fun _ => m_newPupil eP' (by omega) p1 _ ⟨rfl, hR.paper (hW.newP (by omega) (rng_zb h0 rfl rfl)) hm ho⟩, fun h => absurd ((nI_eq (a := P) (b := 12) (by omega) (by decide)).mp h) hP⟩), fun h => absurd (nI_lt (a := P) (b := 12) (by omega) (by decide)) h⟩
/-! the tape fed -/
theorem Rel.tape {c c' m m' : zz_H} (h : Rel c m) (e : ∀ k, k ≠ 29 → k ≠ 30 → c' k = c k) (f : ∀ k, k ≠ 0 → k ≠ 6 → m' k = m k) (f0 : m' 0 4 = m 0 4) (hT : TR c' m') : Rel c' m' := by
  obtain ⟨⟨P, C, h1, h2⟩, h3, h4, h5, h6⟩ := h
  refine ⟨⟨P, C, by rw [f 1 (by decide) (by decide)]; exact h1, by rw [f 1 (by decide) (by decide)]; exact h2.cong (fun k a b => e k (by omega) (by omega))⟩, h3.cong (fun k a b => e k (by omega) (by omega)) (by rw [e 0 (by omega) (by omega)]) f0 (f 2 (by decide) (by decide)), ?_, hT, h6.cong (fun k a => e k (by omega) (by omega)) (f 7 (by decide) (by decide)) (f 8 (by decide) (by decide)) (f 9 (by decide) (by decide))⟩
  intro k hk
  rw [e 34 (by omega) (by omega), f 4 (by decide) (by decide)]
  exact h4 k hk
theorem sh_and (p s : Int32) (k : Nat) (hk : k ≤ 24) (h1 : ((s.toUInt32 &&& Int32.toUInt32 31).toBitVec % 32).toNat = k) (h2 : ((s &&& 31).toBitVec.smod 32).toNat = k) (h3 : k = 0 ∨ k = 8 ∨ k = 16 ∨ k = 24) : zz_ushr p s &&& 255 = (p >>> (s &&& 31)) &&& 255 := by
  rw [pk_and _ 8 (by decide), pk_and _ 8 (by decide)]
  have e1 : (zz_ushr p s).toBitVec.toNat = p.toBitVec.toNat / 2 ^ k := pk_ushr p s k h1
  have e2 : (p >>> (s &&& 31)).toInt = p.toInt >>> k := pk_shr p (s &&& 31) k h2
  rw [e1]
  have e3 : (p >>> (s &&& 31)).toInt = (p >>> (s &&& 31)).toBitVec.toInt := rfl
  have e4 : p.toInt = p.toBitVec.toInt := rfl
  rw [e3, e4, Int.shiftRight_eq_div_pow] at e2
  generalize (p >>> (s &&& 31)).toBitVec = y at e2 ⊢
  generalize p.toBitVec = x at e2 ⊢
  congr 1
  have b1 := x.isLt
  have b2 := y.isLt
  rw [BitVec.toInt_eq_toNat_cond, BitVec.toInt_eq_toNat_cond] at e2
  rcases h3 with rfl | rfl | rfl | rfl
  all_goals
    simp only [Nat.reducePow] at *
    split at e2 <;> split at e2 <;> omega
theorem by_eq (p : Int32) {x : Nat} (hx : x < 4) : zz_ushr p (8 * nI x) &&& 255 = (p >>> ((8 * nI x) &&& 31)) &&& 255 := by
  rcases (show x = 0 ∨ x = 1 ∨ x = 2 ∨ x = 3 by omega) with rfl | rfl | rfl | rfl
  · exact sh_and p _ 0 (by decide) (by decide) (by decide) (by decide)
  · exact sh_and p _ 8 (by decide) (by decide) (by decide) (by decide)
  · exact sh_and p _ 16 (by decide) (by decide) (by decide) (by decide)
  · exact sh_and p _ 24 (by decide) (by decide) (by decide) (by decide)
def byF (p : Int32) (n j : Nat) : Int32 := zz_ushr p (8 * nI (n - 1 - j)) &&& 255
def fdS (p : Int32) (n T : Nat) (g : Nat → Int32) : Nat → (Nat → Int32)
  | 0 => g
  | j + 1 => upd (fdS p n T g j) (T + j) (byF p n j)
theorem fd_lt (p : Int32) (n T : Nat) (g : Nat → Int32) {i : Nat} (hi : i < T) : ∀ j, fdS p n T g j i = g i
  | 0 => rfl
  | j + 1 => by
    show upd (fdS p n T g j) (T + j) _ i = _
    rw [pk_un (by omega)]
    exact fd_lt p n T g hi j
theorem fd_at (p : Int32) (n T : Nat) (g : Nat → Int32) {i : Nat} : ∀ j, i < j → fdS p n T g j (T + i) = byF p n i
  | 0, h => absurd h (by omega)
  | j + 1, h => by
    show upd (fdS p n T g j) (T + j) _ (T + i) = _
    by_cases e : i = j
    · subst e; rw [pk_us]
    · rw [pk_un (by omega)]
      exact fd_at p n T g j (by omega)
theorem byF_zb (p : Int32) (n j : Nat) : zb (byF p n j) 0 255 := by
  obtain ⟨i, hi, e⟩ := pk_andE (zz_ushr p (8 * nI (n - 1 - j))) (m := 255) 8 (by decide)
  unfold byF
  rw [e]
  exact nI_zb (by omega) (by omega)
theorem fx_lt {n j : Nat} (h : j < n) : nI n - nI (j + 1) = nI (n - 1 - j) := by
  obtain ⟨d, rfl⟩ : ∃ d, n = d + (j + 1) := ⟨n - (j + 1), by omega⟩
  rw [show d + (j + 1) - 1 - j = d by omega, ← nI_add]
  grind
theorem fx_s (n j : Nat) : nI n - nI (j + 1) + -1 = nI n - nI (j + 1 + 1) := by
  rw [← nI_1 (j + 1)]
  grind
theorem fx_e (n : Nat) : nI n - nI (n + 1) = -1 := by
  rw [← nI_1 n]
  grind
set_option maxRecDepth 20000 in
set_option maxHeartbeats 4000000 in
theorem op_feed {c m : zz_H} (hR : Rel c m) (p1 : Int32) (p2 : Int32) : wX4_feed p1 p2 c (fun r c' => wX5_feed p1 p2 m (fun r' m' => r = r' ∧ Rel c' m')) := by
  obtain ⟨⟨P, C, hW, hM⟩, hK, hF, hT, hS⟩ := id hR
  have eP : c 1 7 = nI P := hM.1
  have eC : c 1 8 = nI C := hM.2.1
  have eP' : m 1 17 = nI P := hW.1
  have eC' : m 1 18 = nI C := hW.2.2.1
  have bP : P ≤ 12 := hW.2.1
  have bC : C ≤ 6 := hW.2.2.2.1
  unfold wX4_feed wX5_feed 
  by_cases h0 : (1 : Int32) ≤ p2 ∧ p2 ≤ 4
  case neg =>
    simp only [tell0, tell1, tell2, tell3, tell4, tell5, tell6, finds0, finds1, finds2, finds3, finds4, finds5, finds6, c_isQuestion, c_isMarker, c_isKind, c_isBy, c_isLine, c_isSpot, c_isSheet, c_isPupil, c_isCurve, m_isQuestion, m_isLine, m_isOne, m_isPupil, m_isCurve, within_eq, in_eq, wl_ge0, wl_ge1, wl_le1, wl_le3, wl_le4, wl_le5, wl_le6, wl_le7, wl_le9, wl_le12, wl_le40, wl_le100, wl_le400, wl_gem1, wl_ww, zz_10, not_false_eq_true, not_true_eq_false, true_and, and_true, false_implies, true_implies, forall_const, eP, eC, eP', eC', if_neg h0]
    exact hR.find (i := 0) (by decide)
  simp only [tell0, tell1, tell2, tell3, tell4, tell5, tell6, finds0, finds1, finds2, finds3, finds4, finds5, finds6, c_isQuestion, c_isMarker, c_isKind, c_isBy, c_isLine, c_isSpot, c_isSheet, c_isPupil, c_isCurve, m_isQuestion, m_isLine, m_isOne, m_isPupil, m_isCurve, within_eq, in_eq, wl_ge0, wl_ge1, wl_le1, wl_le3, wl_le4, wl_le5, wl_le6, wl_le7, wl_le9, wl_le12, wl_le40, wl_le100, wl_le400, wl_gem1, wl_ww, zz_10, not_false_eq_true, not_true_eq_false, true_and, and_true, false_implies, true_implies, forall_const, eP, eC, eP', eC', if_pos h0]
  obtain ⟨T, t1, t2, t3, t4⟩ := hT
  rw [t2, t3]
  obtain ⟨n, hn, rfl⟩ := idx_le (x := p2) (n := 4) (by decide) ⟨(fa_le _ _).mpr (by have := (fa_le _ _).mp h0.1; have z1 : (1 : Int32).toInt = 1 := rfl; have z0 : (0 : Int32).toInt = 0 := rfl; omega), h0.2⟩
  rw [nI_add]
  by_cases hb : T + n ≤ 120
  case neg =>
    have hb' : ¬ nI (T + n) ≤ 120 := nI_ge (a := 120) (by omega) (by omega)
    exact ⟨fun z => absurd z hb', fun _ => ⟨fun z => absurd z hb', fun _ => hR.find (i := 1) (by decide)⟩⟩
  have hb' : nI (T + n) ≤ 120 := nI_le (b := 120) hb (by decide)
  have fin : ∀ post : Int32 → zz_H → Prop, (∀ m', (∀ k, k ≠ 0 → k ≠ 6 → m' k = m k) → m' 0 4 = m 0 4 → m' 0 7 = nI (T + n) → m' 6 = fdS p1 n T (m 6) n → post (nI (T + n)) m') → ∃ t9, zz_lp (fun K (s : Int32 × zz_H) => wX5_feed_b41 p1 post K s.1 s.2) t9 (nI n - 1, m) := by
    intro post kk
    refine lp_inv n (fun j z => z.1 = nI n - nI (j + 1) ∧ (∀ k, k ≠ 0 → k ≠ 6 → z.2 k = m k) ∧ z.2 0 4 = m 0 4 ∧ z.2 0 7 = nI (T + j) ∧ z.2 6 = fdS p1 n T (m 6) j) ⟨rfl, fun _ _ _ => rfl, rfl, t3, rfl⟩ ?_ ?_
    · rintro j ⟨x, h⟩ K hj ⟨e1, f, f0, f7, f6⟩ hK
      dsimp only at e1 f f0 f7 f6
      subst e1
      refine ⟨fun z => ?_, fun _ => ?_⟩
      · have z : nI n - nI (j + 1) < 0 := z
        rw [fx_lt hj] at z
        exact absurd z (nI_pos (by omega))
      dsimp only
      rw [fx_s, sto_eq, sto_eq, f7, f6]
      refine ⟨in_nI (by omega) (by decide), hK _ ⟨rfl, fun k h1 h2 => ?_, ?_, ?_, ?_⟩⟩
      · dsimp only
        rw [zz_st_ne _ _ h1, zz_st_ne _ _ h2]; exact f k h1 h2
      · dsimp only
        rw [zz_st_self, pk_un (by decide), zz_st_ne _ _ (by decide)]; exact f0
      · dsimp only
        rw [zz_st_self, pk_us, zz_st_ne _ _ (by decide), f7, nI_1]; rfl
      · dsimp only
        rw [zz_st_ne _ _ (by decide), zz_st_self, nI_clamp (by omega), fx_lt hj, ← by_eq p1 (by omega)]
        rfl
    · rintro ⟨x, h⟩ K ⟨e1, f, f0, f7, f6⟩
      dsimp only at e1 f f0 f7 f6
      subst e1
      refine ⟨fun _ => ?_, fun z => absurd (show nI n - nI (n + 1) < 0 by rw [fx_e]; decide) z⟩
      dsimp only
      rw [f7]
      exact kk _ f f0 f7 f6
  refine ⟨fun _ => ?_, fun z => absurd hb' z⟩
  refine lp_inv n (fun j z => z.1 = nI n - nI (j + 1) ∧ (∀ k, k ≠ 29 → k ≠ 30 → z.2 k = c k) ∧ z.2 29 1 = nI (T + j) ∧ z.2 30 = fdS p1 n T (c 30) j) ⟨rfl, fun _ _ _ => rfl, t2, rfl⟩ ?_ ?_
  · rintro j ⟨x, h⟩ K hj ⟨e1, f, f7, f6⟩ hK
    dsimp only at e1 f f7 f6
    subst e1
    refine ⟨fun z => ?_, fun _ => ?_⟩
    · have z : nI n - nI (j + 1) < 0 := z
      rw [fx_lt hj] at z
      exact absurd z (nI_pos (by omega))
    unfold wX3_add
    dsimp only
    rw [fx_s, sto_eq, sto_eq, f7, f6]
    refine ⟨fun z => absurd z (nI_ge (b := 120) (by omega) (by decide)), fun _ => ⟨in_nI (by omega) (by decide), hK _ ⟨rfl, fun k h1 h2 => ?_, ?_, ?_⟩⟩⟩
    · dsimp only
      rw [zz_st_ne _ _ h1, zz_st_ne _ _ h2]; exact f k h1 h2
    · dsimp only
      rw [zz_st_self, pk_us, zz_st_ne _ _ (by decide), f7, nI_1]; rfl
    · dsimp only
      rw [zz_st_ne _ _ (by decide), zz_st_self, nI_clamp (by omega), fx_lt hj]
      rfl
  · rintro ⟨x, h⟩ K ⟨e1, f, f7, f6⟩
    dsimp only at e1 f f7 f6
    subst e1
    refine ⟨fun _ => ⟨fun _ => ?_, fun z => absurd hb' z⟩, fun z => absurd (show nI n - nI (n + 1) < 0 by rw [fx_e]; decide) z⟩
    dsimp only
    rw [f7]
    refine fin _ (fun m' g g0 g7 g6 => ⟨rfl, hR.tape f g g0 ⟨T + n, hb, f7, g7, fun i hi => ?_⟩⟩)
    rw [f6, g6]
    by_cases hi' : i < T
    · rw [fd_lt _ _ _ _ hi', fd_lt _ _ _ _ hi']
      exact t4 i hi'
    · obtain ⟨d, rfl⟩ : ∃ d, i = T + d := ⟨i - T, by omega⟩
      rw [fd_at _ _ _ _ n (by omega), fd_at _ _ _ _ n (by omega)]
      exact ⟨rfl, byF_zb _ _ _⟩

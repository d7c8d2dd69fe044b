/-! the sheets -/
theorem sh_eq {k : Nat} (hk : k < 4) : zz_sheet (nI k) = 35 + 2 * k := by
  unfold zz_sheet
  rw [nI_clamp (by omega)]
theorem s36 (k : Nat) : 35 + 2 * k + 1 = 36 + 2 * k := by omega
theorem ix_40 (k i : Nat) : (40 : Int32) * nI k + nI i = nI (40 * k + i) := by
  show nI 40 * nI k + nI i = _
  rw [pk_mul, nI_add]
theorem c_isMissing (a : Nat) (h : zz_H) (post : Int32 → Prop) : wX2_isMissing a h post = post (if h a 1 = 0 then 1 else 0) := by
  unfold wX2_isMissing
  apply propext
  by_cases e : h a 1 = 0
  · rw [if_pos e]; exact ⟨fun z => z.2 e, fun z => ⟨fun q => absurd e q, fun _ => z⟩⟩
  · rw [if_neg e]; exact ⟨fun z => z.1 e, fun z => ⟨fun _ => z, fun q => absurd q e⟩⟩
theorem m_wrong0 {m : zz_H} {x : Int32} (h : ¬ ((0 : Int32) ≤ x ∧ x ≤ 3)) (Q : Int32 → Prop) (k : Q (-1000001)) : wX5_wrong x m Q := by
  unfold wX5_wrong
  rw [m_isOne, if_neg h]
  exact ⟨fun z => absurd rfl z, fun _ => k⟩
theorem m_wrong6 {m : zz_H} {k : Nat} (hk : k < 4) (e : m 7 k = 0) (Q : Int32 → Prop) (kk : Q (-1000006)) : wX5_wrong (nI k) m Q := by
  unfold wX5_wrong
  rw [m_isOne, if_pos ⟨nI_pos' (by omega), nI_le (b := 3) (by omega) (by decide)⟩, nI_clamp (by omega)]
  exact ⟨fun _ => ⟨in_nI hk (by decide), fun z => absurd e z, fun _ => kk⟩, fun z => absurd z (by decide)⟩
theorem m_wrongK {m : zz_H} {k : Nat} (hk : k < 4) (e : ¬ m 7 k = 0) (Q : Int32 → Prop) (kk : Q 0) : wX5_wrong (nI k) m Q := by
  unfold wX5_wrong
  rw [m_isOne, if_pos ⟨nI_pos' (by omega), nI_le (b := 3) (by omega) (by decide)⟩, nI_clamp (by omega)]
  exact ⟨fun _ => ⟨in_nI hk (by decide), fun _ => kk, fun z => absurd z e⟩, fun z => absurd z (by decide)⟩
theorem c_sheetPre {c m : zz_H} (hS : SR c m) (p1 : Int32) (X : Prop) (post : Int32 → zz_H → Prop) (k0 : ¬ ((0 : Int32) ≤ p1 ∧ p1 ≤ 3) → post (-1000001) (cF c 0)) (k6 : ∀ k, k < 4 → p1 = nI k → m 7 k = 0 → post (-1000006) (cF c 5)) (kx : ∀ k, k < 4 → p1 = nI k → ¬ m 7 k = 0 → X) : wX4_isSheet p1 c (fun r1 => ((¬ r1 = 0) → (vp_in p1 4 ∧ (wX2_isMissing (zz_sheet p1) c (fun r3 => ((r3 = 0) → X) ∧ ((¬ r3 = 0) → (wX4_tell ((-1000006) : Int32) c (fun r17 h16 => post r17 h16))))))) ∧ ((r1 = 0) → (wX4_tell ((-1000001) : Int32) c (fun r19 h18 => post r19 h18)))) := by
  rw [c_isSheet, c_isMissing, tell0, tell5]
  by_cases h : (0 : Int32) ≤ p1 ∧ p1 ≤ 3
  · rw [if_pos h]
    obtain ⟨k, hk, rfl⟩ := idx_le (n := 3) (by decide) h
    refine ⟨fun _ => ⟨in_nI (by omega) (by decide), ?_⟩, fun z => absurd z (by decide)⟩
    rw [sh_eq (by omega), show c (35 + 2 * k) 1 = m 7 k from (hS k (by omega)).1]
    by_cases e : m 7 k = 0
    · rw [if_pos e]
      exact ⟨fun z => absurd z (by decide), fun _ => k6 k (by omega) rfl e⟩
    · rw [if_neg e]
      exact ⟨fun _ => kx k (by omega) rfl e, fun z => absurd rfl z⟩
  · rw [if_neg h]
    exact ⟨fun z => absurd rfl z, fun _ => k0 h⟩
theorem Rel.sheets {c c' m m' : zz_H} (h : Rel c m) (e : ∀ k, k < 35 → c' k = c k) (f : ∀ k, k ≠ 7 → k ≠ 8 → k ≠ 9 → k ≠ 10 → m' k = m k) (hS : SR c' m') : Rel c' m' := by
  obtain ⟨⟨P, C, h1, h2⟩, h3, h4, h5, h6⟩ := h
  refine ⟨⟨P, C, by rw [f 1 (by decide) (by decide) (by decide) (by decide)]; exact h1, by rw [f 1 (by decide) (by decide) (by decide) (by decide)]; exact h2.cong (fun k a b => e k (by omega))⟩, h3.cong (fun k a b => e k (by omega)) (by rw [e 0 (by omega)]) (by rw [f 0 (by decide) (by decide) (by decide) (by decide)]) (f 2 (by decide) (by decide) (by decide) (by decide)), ?_, h5.cong (by rw [e 29 (by omega)]) (e 30 (by omega)) (by rw [f 0 (by decide) (by decide) (by decide) (by decide)]) (f 6 (by decide) (by decide) (by decide) (by decide)), hS⟩
  intro k hk
  rw [e 34 (by omega), f 4 (by decide) (by decide) (by decide) (by decide)]
  exact h4 k hk
def fzS (k : Nat) (g : Nat → Int32) : Nat → (Nat → Int32)
  | 0 => g
  | j + 1 => upd (fzS k g j) (40 * k + j) 0
theorem fz_at (k : Nat) (g : Nat → Int32) {i : Nat} : ∀ j, i < j → fzS k g j (40 * k + i) = 0
  | 0, h => absurd h (by omega)
  | j + 1, h => by
    show upd (fzS k g j) (40 * k + j) 0 (40 * k + i) = 0
    by_cases e : i = j
    · subst e; rw [pk_us]
    · rw [pk_un (by omega)]; exact fz_at k g j (by omega)
theorem fz_ne (k : Nat) (g : Nat → Int32) {i : Nat} : ∀ j, (i < 40 * k ∨ 40 * k + j ≤ i) → fzS k g j i = g i
  | 0, _ => rfl
  | j + 1, h => by
    show upd (fzS k g j) (40 * k + j) 0 i = _
    rw [pk_un (by omega)]; exact fz_ne k g j (by omega)
theorem m_sheetEnd {m : zz_H} {k : Nat} (hk : k < 4) (b n : Int32) (post : Int32 → zz_H → Prop) (kk : post n (zz_st (zz_st (zz_st m 7 (upd (m 7) k b)) 8 (upd (m 8) k n)) 9 (fzS k (m 9) 40))) : wX5_sheet_j81 (nI k) post (zz_st m 7 (upd (m 7) k b)) n := by
  unfold wX5_sheet_j81
  refine ⟨in_nI hk (by decide), ?_⟩
  rw [sto_eq, nI_clamp (by omega), zz_st_ne _ _ (by decide)]
  have e8 : zz_st (zz_st m 7 (upd (m 7) k b)) 8 (upd (m 8) k n) 8 = upd (m 8) k n := zz_st_self _ _ _
  have e9 : zz_st (zz_st m 7 (upd (m 7) k b)) 8 (upd (m 8) k n) 9 = m 9 := by rw [zz_st_ne _ _ (by decide), zz_st_ne _ _ (by decide)]
  generalize zz_st (zz_st m 7 (upd (m 7) k b)) 8 (upd (m 8) k n) = h at kk e8 e9 ⊢
  rw [← e9] at kk
  have this := lp_for (b := fun K (s : Int32 × zz_H) => wX5_sheet_b85 (nI k) post K s.1 s.2) 40 (fun j => (nI j, zz_st h 9 (fzS k (h 9) j))) ?_ ?_
  · have e : zz_st h 9 (fzS k (h 9) 0) = h := st_id h 9
    rw [e] at this
    exact this
  · intro j hj K hK
    have hK : K (nI (j + 1), zz_st h 9 (upd (fzS k (h 9) j) (40 * k + j) 0)) := hK
    refine ⟨fun z => absurd z (lt_nle (N := 40) hj (by decide)), fun _ => ?_⟩
    dsimp only
    rw [ix_40, sto_eq, nI_clamp (by omega), zz_st_self, st_st, nI_1]
    exact ⟨in_nI (by omega) (by decide), hK⟩
  · intro K
    refine ⟨fun _ => ⟨in_nI hk (by decide), ?_⟩, fun z => absurd (show nI 40 ≤ nI 40 from nI_le (Nat.le_refl 40) (by decide)) z⟩
    dsimp only
    rw [nI_clamp (by omega), zz_st_ne _ _ (show 8 ≠ 9 by decide), e8, pk_us]
    exact kk
theorem SR.renew {c m c' : zz_H} (h : SR c m) {k n : Nat} (hk : k < 4) (hn : n ≤ 40) {b : Int32} (hb : b = 0 ∨ b = 8 ∨ b = 16 ∨ b = 32) {g : Nat → Int32} (hg : ∀ i, i < 40 → g i = 0) (e1 : c' (35 + 2 * k) 1 = b) (e2 : c' (35 + 2 * k) 2 = nI n) (e3 : c' (36 + 2 * k) = g) (e : ∀ j, j ≠ 35 + 2 * k → j ≠ 36 + 2 * k → c' j = c j) : SR c' (zz_st (zz_st (zz_st m 7 (upd (m 7) k b)) 8 (upd (m 8) k (nI n))) 9 (fzS k (m 9) 40)) := by
  intro j hj
  rw [zz_st_ne _ _ (show 7 ≠ 9 by decide), zz_st_ne _ _ (show 7 ≠ 8 by decide), zz_st_self, zz_st_ne _ _ (show 8 ≠ 9 by decide), zz_st_self, zz_st_self]
  by_cases ej : j = k
  · subst ej
    rw [pk_us, pk_us, e1, e2, e3]
    refine ⟨rfl, hb, ⟨n, hn, rfl, rfl⟩, fun i hi => ?_⟩
    rw [hg i hi, fz_at _ _ _ hi]
  · rw [pk_un ej, pk_un ej, e (35 + 2 * j) (by omega) (by omega), e (36 + 2 * j) (by omega) (by omega)]
    obtain ⟨a1, a2, a3, a4⟩ := h j hj
    refine ⟨a1, a2, a3, fun i hi => ?_⟩
    rw [fz_ne _ _ _ (by omega)]
    exact a4 i hi
theorem c_renew {c : zz_H} {a : Nat} (b n : Int32) (post : Int32 → zz_H → Prop) (k : ∀ (c' : zz_H) (g : Nat → Int32), (∀ i, i < 40 → g i = 0) → c' a 1 = b → c' a 2 = (if b = 0 then 0 else n) → c' (a + 1) = g → (∀ j, j ≠ a → j ≠ a + 1 → c' j = c j) → post 0 c') : wX2_renew a b n c post := by
  unfold wX2_renew
  simp only [sto_eq, zz_st_self]
  refine ⟨fun z => ?_, fun z => ?_⟩
  · rw [if_neg z] at k
    refine c_fill (by decide) _ _ (fun g hg => k _ g hg ?_ ?_ ?_ (fun j h1 h2 => ?_))
    · rw [zz_st_ne _ _ (by omega), zz_st_self, pk_un (by decide), pk_us]
    · rw [zz_st_ne _ _ (by omega), zz_st_self, pk_us]
    · rw [zz_st_self]
    · rw [zz_st_ne _ _ h2, zz_st_ne _ _ h1, zz_st_ne _ _ h1]
  · rw [if_pos z] at k
    refine c_fill (by decide) _ _ (fun g hg => k _ g hg ?_ ?_ ?_ (fun j h1 h2 => ?_))
    · rw [zz_st_ne _ _ (by omega), zz_st_self, pk_un (by decide), pk_us]
    · rw [zz_st_ne _ _ (by omega), zz_st_self, pk_us]
    · rw [zz_st_self]
    · rw [zz_st_ne _ _ h2, zz_st_ne _ _ h1, zz_st_ne _ _ h1]
theorem sheet_in {c m : zz_H} (hR : Rel c m) {k : Nat} (hk : k < 4) {b : Int32} (hb : b = 0 ∨ b = 8 ∨ b = 16 ∨ b = 32) (p3 : Int32) (post : Int32 → zz_H → Prop) (kk : ∀ r c', wX5_sheet_j36 (nI k) b p3 m (fun r' m' => r = r' ∧ Rel c' m') → post r c') : wX4_sheet_j36 (nI k) b p3 c post := by
  obtain ⟨-, -, -, -, hS⟩ := id hR
  unfold wX4_sheet_j36
  rw [tell0, tell6]
  refine ⟨fun h1 => ⟨fun h2 => ?_, fun h2 => kk _ _ ?_⟩, fun h1 => kk _ _ ?_⟩
  · obtain ⟨n, hn, rfl⟩ := idx_le (n := 40) (by decide) ⟨h1, h2⟩
    have v1 : vp_in (nI k) 4 := in_nI hk (by decide)
    refine ⟨v1, ?_⟩
    rw [sh_eq hk]
    refine c_renew _ _ _ (fun c' g hg e1 e2 e3 e => ⟨v1, kk _ _ ?_⟩)
    unfold wX5_sheet_j36
    refine ⟨fun _ => ⟨fun _ => ⟨v1, ?_⟩, fun z => absurd h2 z⟩, fun z => absurd h1 z⟩
    rw [sto_eq, nI_clamp (by omega)]
    rw [s36] at e3 e
    refine ⟨fun z => ?_, fun z => ?_⟩
    · rw [if_neg z] at e2
      refine m_sheetEnd hk _ _ _ ⟨e2, hR.sheets (fun j hj => e j (by omega) (by omega)) (fun j h7 h8 h9 h10 => ?_) (hS.renew hk hn hb hg e1 e2 e3 e)⟩
      rw [zz_st_ne _ _ h9, zz_st_ne _ _ h8, zz_st_ne _ _ h7]
    · rw [if_pos z] at e2
      refine m_sheetEnd hk _ _ _ ⟨e2, hR.sheets (fun j hj => e j (by omega) (by omega)) (fun j h7 h8 h9 h10 => ?_) (hS.renew (n := 0) hk (by omega) hb hg e1 e2 e3 e)⟩
      rw [zz_st_ne _ _ h9, zz_st_ne _ _ h8, zz_st_ne _ _ h7]
  · unfold wX5_sheet_j36
    rw [finds0]
    exact ⟨fun _ => ⟨fun z => absurd z h2, fun _ => ⟨rfl, hR.find (by decide)⟩⟩, fun z => absurd h1 z⟩
  · unfold wX5_sheet_j36
    rw [finds6]
    exact ⟨fun z => absurd z h1, fun _ => ⟨rfl, hR.find (by decide)⟩⟩
set_option maxRecDepth 20000 in
set_option maxHeartbeats 4000000 in
theorem op_sheet {c m : zz_H} (hR : Rel c m) (p1 : Int32) (p2 : Int32) (p3 : Int32) : wX4_sheet p1 p2 p3 c (fun r c' => wX5_sheet p1 p2 p3 m (fun r' m' => r = r' ∧ Rel c' m')) := by
  obtain ⟨⟨P, C, hW, hM⟩, hK, hF, hT, hS⟩ := id hR
  have eP : c 1 7 = nI P := hM.1
  have eC : c 1 8 = nI C := hM.2.1
  have eP' : m 1 17 = nI P := hW.1
  have eC' : m 1 18 = nI C := hW.2.2.1
  have bP : P ≤ 12 := hW.2.1
  have bC : C ≤ 6 := hW.2.2.2.1
  unfold wX4_sheet wX5_sheet 
  by_cases h0 : (0 : Int32) ≤ p1 ∧ p1 ≤ 3
  case neg =>
    simp only [tell0, tell1, tell2, tell3, tell4, tell5, tell6, finds0, finds1, finds2, finds3, finds4, finds5, finds6, c_isQuestion, c_isMarker, c_isKind, c_isBy, c_isLine, c_isSpot, c_isSheet, c_isPupil, c_isCurve, m_isQuestion, m_isLine, m_isOne, m_isPupil, m_isCurve, within_eq, in_eq, wl_ge0, wl_ge1, wl_le1, wl_le3, wl_le4, wl_le5, wl_le6, wl_le7, wl_le9, wl_le12, wl_le40, wl_le100, wl_le400, wl_gem1, wl_ww, zz_10, not_false_eq_true, not_true_eq_false, true_and, and_true, false_implies, true_implies, forall_const, eP, eC, eP', eC', if_neg h0]
    exact hR.find (i := 0) (by decide)
  simp only [tell0, tell1, tell2, tell3, tell4, tell5, tell6, finds0, finds1, finds2, finds3, finds4, finds5, finds6, c_isQuestion, c_isMarker, c_isKind, c_isBy, c_isLine, c_isSpot, c_isSheet, c_isPupil, c_isCurve, m_isQuestion, m_isLine, m_isOne, m_isPupil, m_isCurve, within_eq, in_eq, wl_ge0, wl_ge1, wl_le1, wl_le3, wl_le4, wl_le5, wl_le6, wl_le7, wl_le9, wl_le12, wl_le40, wl_le100, wl_le400, wl_gem1, wl_ww, zz_10, not_false_eq_true, not_true_eq_false, true_and, and_true, false_implies, true_implies, forall_const, eP, eC, eP', eC', if_pos h0]
  obtain ⟨k, hk, rfl⟩ := idx_le (n := 3) (by decide) h0
  by_cases b0 : p2 = 0
  · subst b0
    exact ⟨fun _ => sheet_in hR (by omega) (by decide) p3 _ (fun r c' z => ⟨fun _ => z, fun q => absurd rfl q⟩), fun q => absurd rfl q⟩
  by_cases b8 : p2 = 8
  · subst b8
    exact ⟨fun q => absurd q b0, fun _ => ⟨fun _ => sheet_in hR (by omega) (by decide) p3 _ (fun r c' z => ⟨fun q => absurd q b0, fun _ => ⟨fun _ => z, fun q => absurd rfl q⟩⟩), fun q => absurd rfl q⟩⟩
  by_cases b16 : p2 = 16
  · subst b16
    exact ⟨fun q => absurd q b0, fun _ => ⟨fun q => absurd q b8, fun _ => ⟨fun _ => sheet_in hR (by omega) (by decide) p3 _ (fun r c' z => ⟨fun q => absurd q b0, fun _ => ⟨fun q => absurd q b8, fun _ => ⟨fun _ => z, fun q => absurd rfl q⟩⟩⟩), fun q => absurd rfl q⟩⟩⟩
  by_cases b32 : p2 = 32
  · subst b32
    exact ⟨fun q => absurd q b0, fun _ => ⟨fun q => absurd q b8, fun _ => ⟨fun q => absurd q b16, fun _ => ⟨fun _ => sheet_in hR (by omega) (by decide) p3 _ (fun r c' z => ⟨fun q => absurd q b0, fun _ => ⟨fun q => absurd q b8, fun _ => ⟨fun q => absurd q b16, fun _ => ⟨fun _ => z, fun q => absurd rfl q⟩⟩⟩⟩), fun q => absurd rfl q⟩⟩⟩⟩
  exact ⟨fun q => absurd q b0, fun _ => ⟨fun q => absurd q b8, fun _ => ⟨fun q => absurd q b16, fun _ => ⟨fun q => absurd q b32, fun _ => ⟨fun q => absurd q b0, fun _ => ⟨fun q => absurd q b8, fun _ => ⟨fun q => absurd q b16, fun _ => ⟨fun q => absurd q b32, fun _ => hR.find (i := 0) (by decide)⟩⟩⟩⟩⟩⟩⟩⟩
theorem nar (x : Int32) (s : Int32) (k : Nat) (hs : (s.toBitVec.smod 32).toNat = k) : ((x <<< s) >>> s).toInt = ((x.toInt * 2 ^ k).bmod (2 ^ 32)) / 2 ^ k := by
  rw [pk_shr _ _ k hs, Int.shiftRight_eq_div_pow]
  have h := pk_shl x s k hs
  have e : (x <<< s).toInt = (x.toInt * 2 ^ k).bmod (2 ^ 32) := by
    have e1 : (x <<< s).toInt = Int.bmod ((x <<< s).toBitVec.toNat : Int) (2 ^ 32) := BitVec.toInt_eq_toNat_bmod _
    have e2 : x.toInt = Int.bmod (x.toBitVec.toNat : Int) (2 ^ 32) := BitVec.toInt_eq_toNat_bmod _
    rw [e1, e2, h, Int.bmod_mul_bmod]
    have : (((x.toBitVec.toNat * 2 ^ k % 2 ^ 32 : Nat)) : Int) = ((x.toBitVec.toNat : Int) * 2 ^ k) % ((2 ^ 32 : Nat) : Int) := by
      rw [Int.natCast_emod, Int.natCast_mul, Int.natCast_pow]
      rfl
    rw [this, Int.emod_bmod]
  rw [e]
  norm_cast
theorem nar8 (x : Int32) : (x <<< ((32 : Int32) - 8 &&& 31)) >>> ((32 : Int32) - 8 &&& 31) = x.toInt8.toInt32 := by
  rw [fa_eq, nar x _ 24 (by decide), Int8.toInt_toInt32, Int32.toInt_toInt8]
  have := fb_rng x
  simp only [Int.bmod]
  omega
theorem nar16 (x : Int32) : (x <<< ((32 : Int32) - 16 &&& 31)) >>> ((32 : Int32) - 16 &&& 31) = x.toInt16.toInt32 := by
  rw [fa_eq, nar x _ 16 (by decide), Int16.toInt_toInt32, Int32.toInt_toInt16]
  have := fb_rng x
  simp only [Int.bmod]
  omega
theorem nar32 (x : Int32) : (x <<< ((32 : Int32) - 32 &&& 31)) >>> ((32 : Int32) - 32 &&& 31) = x := by
  rw [fa_eq, nar x _ 0 (by decide)]
  have := fb_rng x
  simp only [Int.bmod]
  omega
theorem SR.put {c m : zz_H} (h : SR c m) {k i : Nat} (hk : k < 4) (hi : i < 40) (v : Int32) : SR (zz_st c (36 + 2 * k) (upd (c (36 + 2 * k)) i v)) (zz_st m 9 (upd (m 9) (40 * k + i) v)) := by
  intro j hj
  rw [zz_st_ne _ _ (show 7 ≠ 9 by decide), zz_st_ne _ _ (show 8 ≠ 9 by decide), zz_st_ne _ _ (show 35 + 2 * j ≠ 36 + 2 * k by omega), zz_st_self]
  obtain ⟨a1, a2, a3, a4⟩ := h j hj
  refine ⟨a1, a2, a3, fun x hx => ?_⟩
  by_cases e : j = k
  · subst e
    rw [zz_st_self]
    by_cases e2 : x = i
    · subst e2; rw [pk_us, pk_us]
    · rw [pk_un e2, pk_un (by omega)]; exact a4 x hx
  · rw [zz_st_ne _ _ (by omega), pk_un (by omega)]; exact a4 x hx
set_option maxHeartbeats 4000000 in
theorem op_write {c m : zz_H} (hR : Rel c m) (p1 p2 p3 : Int32) : wX4_write p1 p2 p3 c (fun r c' => wX5_write p1 p2 p3 m (fun r' m' => r = r' ∧ Rel c' m')) := by
  obtain ⟨⟨P, C, hW, hM⟩, hK, hF, hT, hS⟩ := id hR
  unfold wX4_write
  refine c_sheetPre hS p1 _ _ (fun h => ?_) (fun k hk e e7 => ?_) (fun k hk e e7 => ?_)
  · unfold wX5_write
    refine m_wrong0 h _ ⟨fun z => absurd z (by decide), fun _ => ?_⟩
    rw [finds0]
    exact ⟨rfl, hR.find (by decide)⟩
  · subst e
    unfold wX5_write
    refine m_wrong6 hk e7 _ ⟨fun z => absurd z (by decide), fun _ => ?_⟩
    rw [finds5]
    exact ⟨rfl, hR.find (by decide)⟩
  · subst e
    obtain ⟨a1, a2, ⟨n, hn, n1, n2⟩, a4⟩ := hS k hk
    have v1 : vp_in (nI k) 4 := in_nI hk (by decide)
    have md : ∀ (r : Int32) (c' : zz_H), (¬ ((0 : Int32) ≤ p2 ∧ p2 ≤ nI n - 1) → r = -1000001 ∧ Rel c' (mF m 0)) → (∀ i, i < n → p2 = nI i → wX5_narrowed (m 7 k) p3 m (fun r3 => r = 1 ∧ Rel c' (zz_st m 9 (upd (m 9) (40 * k + i) r3)))) → wX5_write (nI k) p2 p3 m (fun r' m' => r = r' ∧ Rel c' m') := by
      intro r c' k0 k1
      unfold wX5_write
      refine m_wrongK hk e7 _ ⟨fun _ => ⟨v1, ?_⟩, fun z => absurd rfl z⟩
      rw [nI_clamp (by omega), n2, in_eq, finds0]
      simp only [wl_ge0, wl_ww]
      by_cases h : (0 : Int32) ≤ p2 ∧ p2 ≤ nI n - 1
      · rw [if_pos h]
        obtain ⟨i, hi, rfl⟩ := idx_of (by omega) h
        refine ⟨fun _ => ⟨v1, ?_⟩, fun z => absurd z (by decide)⟩
        have k1 := k1 i hi rfl
        rw [ix_40, nI_clamp (by omega)]
        unfold wX5_narrowed at k1 ⊢
        have v2 : vp_in (nI (40 * k + i)) 160 := in_nI (by omega) (by decide)
        exact ⟨fun q => ⟨fun q' => ⟨v2, (k1.1 q).1 q'⟩, fun q' => ⟨v2, (k1.1 q).2 q'⟩⟩, fun q => ⟨v2, k1.2 q⟩⟩
      · rw [if_neg h]
        exact ⟨fun z => absurd rfl z, fun _ => k0 h⟩
    refine ⟨v1, ?_⟩
    rw [sh_eq hk, n1, within_eq, tell0]
    by_cases h : (0 : Int32) ≤ p2 ∧ p2 ≤ nI n - 1
    · rw [if_pos h]
      obtain ⟨i, hi, rfl⟩ := idx_of (by omega) h
      refine ⟨fun _ => ⟨v1, ?_⟩, fun z => absurd z (by decide)⟩
      unfold wX2_put
      rw [sto_eq, s36, nI_clamp (by omega), a1]
      refine ⟨in_nI (by omega) (by decide), md _ _ (fun q => absurd h q) (fun i' hi' ei => ?_)⟩
      have ei : i = i' := (nI_eq (by omega) (by omega)).mp ei
      subst ei
      have fin : ∀ v : Int32, Rel (zz_st c (36 + 2 * k) (upd (c (36 + 2 * k)) i v)) (zz_st m 9 (upd (m 9) (40 * k + i) v)) := fun v => hR.sheets (fun j hj => zz_st_ne _ _ (by omega)) (fun j h7 h8 h9 h10 => zz_st_ne _ _ h9) (hS.put hk (by omega) v)
      unfold wX5_narrowed
      rcases a2 with q | q | q | q
      · exact absurd q e7
      · rw [q, nar8]
        exact ⟨fun z => absurd rfl z, fun _ => ⟨rfl, fin _⟩⟩
      · rw [q, nar16]
        exact ⟨fun _ => ⟨fun z => absurd rfl z, fun _ => ⟨rfl, fin _⟩⟩, fun z => absurd z (by decide)⟩
      · rw [q, nar32]
        exact ⟨fun _ => ⟨fun _ => ⟨rfl, fin _⟩, fun z => absurd z (by decide)⟩, fun z => absurd z (by decide)⟩
    · rw [if_neg h]
      exact ⟨fun z => absurd rfl z, fun _ => md _ _ (fun _ => ⟨rfl, hR.find (by decide)⟩) (fun i hi ei => absurd (by rw [ei]; exact idx_ofb (by omega) rfl hi) h)⟩

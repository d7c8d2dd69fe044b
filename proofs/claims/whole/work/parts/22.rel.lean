/-! the relation between the class's contents c and the reference's contents m -/
def WF (s : Nat → Int32) (P C : Nat) : Prop :=
  s 17 = nI P ∧ P ≤ 12 ∧ s 18 = nI C ∧ C ≤ 6 ∧ (∀ q, q < 8 → zb (s q) 0 40) ∧ (∀ q, q < 8 → zb (s (8 + q)) (-1) 400) ∧ (∀ p, p < P → zb (s (19 + 17 * p)) 0 3) ∧
  (∀ p q k, p < P → q < 8 → k < 2 → zb (s (20 + 17 * p + 8 * k + q)) 0 (s q).toInt) ∧ (∀ k, k < C → zb (s (223 + 2 * k)) 0 6 ∧ zb (s (224 + 2 * k)) 0 100) ∧ ∀ k, k < 10 → zb (s (235 + k)) (-1) ((C : Int) - 1)
def PM (c : zz_H) (a : Nat) (s : Nat → Int32) (P C : Nat) : Prop :=
  c a 7 = nI P ∧ c a 8 = nI C ∧ c a 9 = s 16 ∧ (∀ q, q < 8 → c (a + 1) q = s q) ∧ (∀ q, q < 8 → c (a + 2) q = s (8 + q)) ∧ (∀ p, p < P → c (a + 3) p = s (19 + 17 * p)) ∧
  (∀ p q k, p < P → q < 8 → k < 2 → c (a + 4) (16 * p + 2 * q + k) = s (20 + 17 * p + 8 * k + q)) ∧ (∀ k, k < C → c (a + 5) k = s (223 + 2 * k) ∧ c (a + 6) k = s (224 + 2 * k)) ∧ ∀ k, k < 10 → c (a + 7) k = s (235 + k)
def KR (c m : zz_H) : Prop := (c 0 9 = 0 ∧ m 0 4 = 0) ∨ (c 0 9 = 1 ∧ m 0 4 = 1 ∧ ∃ P C, WF (m 2) P C ∧ PM c 9 (m 2) P C)
def FR (c m : zz_H) : Prop := ∀ f, f < 7 → c 34 f = m 4 f
def TR (c m : zz_H) : Prop := ∃ T : Nat, T ≤ 120 ∧ c 29 1 = nI T ∧ m 0 7 = nI T ∧ ∀ i, i < T → c 30 i = m 6 i ∧ zb (m 6 i) 0 255
def SR (c m : zz_H) : Prop := ∀ k, k < 4 → c (35 + 2 * k) 1 = m 7 k ∧ (m 7 k = 0 ∨ m 7 k = 8 ∨ m 7 k = 16 ∨ m 7 k = 32) ∧ (∃ n : Nat, n ≤ 40 ∧ c (35 + 2 * k) 2 = nI n ∧ m 8 k = nI n) ∧ ∀ i, i < 40 → c (36 + 2 * k) i = m 9 (40 * k + i)
def Rel (c m : zz_H) : Prop := (∃ P C, WF (m 1) P C ∧ PM c 1 (m 1) P C) ∧ KR c m ∧ FR c m ∧ TR c m ∧ SR c m
theorem PM.cong {c c' : zz_H} {a : Nat} {s : Nat → Int32} {P C : Nat} (h : PM c a s P C) (e : ∀ k, a ≤ k → k ≤ a + 7 → c' k = c k) : PM c' a s P C := by
  unfold PM at h ⊢
  rw [e a (by omega) (by omega), e (a + 1) (by omega) (by omega), e (a + 2) (by omega) (by omega), e (a + 3) (by omega) (by omega), e (a + 4) (by omega) (by omega), e (a + 5) (by omega) (by omega), e (a + 6) (by omega) (by omega), e (a + 7) (by omega) (by omega)]
  exact h
theorem KR.cong {c c' m m' : zz_H} (h : KR c m) (e : ∀ k, 9 ≤ k → k ≤ 16 → c' k = c k) (e0 : c' 0 9 = c 0 9) (f0 : m' 0 4 = m 0 4) (f2 : m' 2 = m 2) : KR c' m' := by
  unfold KR at h ⊢
  rw [e0, f0, f2]
  rcases h with h | ⟨h1, h2, P, C, h3, h4⟩
  · exact Or.inl h
  · exact Or.inr ⟨h1, h2, P, C, h3, h4.cong e⟩
theorem TR.cong {c c' m m' : zz_H} (h : TR c m) (e1 : c' 29 1 = c 29 1) (e2 : c' 30 = c 30) (f1 : m' 0 7 = m 0 7) (f2 : m' 6 = m 6) : TR c' m' := by
  unfold TR at h ⊢
  rw [e1, e2, f1, f2]
  exact h
theorem SR.cong {c c' m m' : zz_H} (h : SR c m) (e : ∀ k, 35 ≤ k → c' k = c k) (f7 : m' 7 = m 7) (f8 : m' 8 = m 8) (f9 : m' 9 = m 9) : SR c' m' := by
  intro k hk
  rw [e (35 + 2 * k) (by omega), e (36 + 2 * k) (by omega), f7, f8, f9]
  exact h k hk
/-- the same but for what no answer depends on -/
def SE (c c' : zz_H) : Prop := ∀ k, (k ≤ 16 ∨ 29 ≤ k ∧ k ≤ 31 ∨ 34 ≤ k) → c' k = c k
def SM (m m' : zz_H) : Prop := ∀ k, k ≠ 3 → k ≠ 5 → k ≠ 10 → m' k = m k
theorem SE.rf (c : zz_H) : SE c c := fun _ _ => rfl
theorem SM.rf (m : zz_H) : SM m m := fun _ _ _ _ => rfl
theorem SE.tr {c c' c'' : zz_H} (h : SE c c') (h' : SE c' c'') : SE c c'' := fun k hk => (h' k hk).trans (h k hk)
theorem SM.tr {c c' c'' : zz_H} (h : SM c c') (h' : SM c' c'') : SM c c'' := fun k h1 h2 h3 => (h' k h1 h2 h3).trans (h k h1 h2 h3)
theorem SE.st {c c' : zz_H} {k : Nat} {g : Nat → Int32} (h : SE c c') (hk : 17 ≤ k ∧ k ≤ 28 ∨ k = 32 ∨ k = 33) : SE c (zz_st c' k g) := fun a ha => by
  rw [zz_st_ne _ _ (by omega)]; exact h a ha
theorem SM.st {m m' : zz_H} {k : Nat} {g : Nat → Int32} (h : SM m m') (hk : k = 3 ∨ k = 5 ∨ k = 10) : SM m (zz_st m' k g) := fun a h1 h2 h3 => by
  rw [zz_st_ne _ _ (by omega)]; exact h a h1 h2 h3
theorem Rel.se {c c' m m' : zz_H} (h : Rel c m) (e : SE c c') (f : SM m m') : Rel c' m' := by
  obtain ⟨⟨P, C, h1, h2⟩, h3, h4, h5, h6⟩ := h
  have e0 := f 0 (by decide) (by decide) (by decide)
  refine ⟨⟨P, C, by rw [f 1 (by decide) (by decide) (by decide)]; exact h1, by rw [f 1 (by decide) (by decide) (by decide)]; exact h2.cong (fun k a b => e k (by omega))⟩, h3.cong (fun k a b => e k (by omega)) (by rw [e 0 (by omega)]) (by rw [e0]) (f 2 (by decide) (by decide) (by decide)), ?_, h5.cong (by rw [e 29 (by omega)]) (e 30 (by omega)) (by rw [e0]) (f 6 (by decide) (by decide) (by decide)), h6.cong (fun k a => e k (by omega)) (f 7 (by decide) (by decide) (by decide)) (f 8 (by decide) (by decide) (by decide)) (f 9 (by decide) (by decide) (by decide))⟩
  intro k hk
  rw [e 34 (by omega), f 4 (by decide) (by decide) (by decide)]
  exact h4 k hk
def cF (c : zz_H) (i : Nat) : zz_H := zz_st c 34 (upd (c 34) i (c 34 i + 1))
def mF (m : zz_H) (i : Nat) : zz_H := zz_st m 4 (upd (m 4) i (m 4 i + 1))
theorem Rel.find {c m : zz_H} (h : Rel c m) {i : Nat} (hi : i < 7) : Rel (cF c i) (mF m i) := by
  obtain ⟨⟨P, C, h1, h2⟩, h3, h4, h5, h6⟩ := h
  have e : ∀ k, k ≠ 34 → cF c i k = c k := fun k hk => zz_st_ne _ _ hk
  have f : ∀ k, k ≠ 4 → mF m i k = m k := fun k hk => zz_st_ne _ _ hk
  refine ⟨⟨P, C, by rw [f 1 (by decide)]; exact h1, by rw [f 1 (by decide)]; exact h2.cong (fun k a b => e k (by omega))⟩, h3.cong (fun k a b => e k (by omega)) (by rw [e 0 (by omega)]) (by rw [f 0 (by decide)]) (f 2 (by decide)), ?_, h5.cong (by rw [e 29 (by omega)]) (e 30 (by omega)) (by rw [f 0 (by decide)]) (f 6 (by decide)), h6.cong (fun k a => e k (by omega)) (f 7 (by decide)) (f 8 (by decide)) (f 9 (by decide))⟩
  intro k hk
  unfold cF mF
  rw [zz_st_self, zz_st_self]
  unfold upd
  rw [h4 k hk, h4 i hi]
theorem tell_i {f : Int32} {i : Nat} (hi : i < 7) (hf : ((-1000001) : Int32) - f = nI i) (h : zz_H) (post : Int32 → zz_H → Prop) : wX4_tell f h post = post f (cF h i) := by
  unfold wX4_tell
  rw [within_eq, hf, nI_clamp (by omega)]
  have h1 : (0 : Int32) ≤ nI i ∧ nI i ≤ 6 := ⟨nI_pos' (by omega), nI_le (a := i) (b := 6) (by omega) (by decide)⟩
  have h2 : vp_in (nI i) 7 := in_nI hi (by decide)
  rw [if_pos h1]
  simp [h2, sto_eq, cF]
theorem finds_i {f : Int32} {i : Nat} (hi : i < 7) (hf : ((-1000001) : Int32) - f = nI i) (h : zz_H) (post : Int32 → zz_H → Prop) : wX5_finds f h post = post f (mF h i) := by
  unfold wX5_finds
  rw [hf, nI_clamp (by omega)]
  have h2 : vp_in (nI i) 7 := in_nI hi (by decide)
  simp [h2, sto_eq, mF]
theorem tell0 (h : zz_H) (post : Int32 → zz_H → Prop) : wX4_tell ((-1000001) : Int32) h post = post ((-1000001) : Int32) (cF h 0) := tell_i (by decide) (by decide) h post
theorem finds0 (h : zz_H) (post : Int32 → zz_H → Prop) : wX5_finds ((-1000001) : Int32) h post = post ((-1000001) : Int32) (mF h 0) := finds_i (by decide) (by decide) h post
theorem tell1 (h : zz_H) (post : Int32 → zz_H → Prop) : wX4_tell ((-1000002) : Int32) h post = post ((-1000002) : Int32) (cF h 1) := tell_i (by decide) (by decide) h post
theorem finds1 (h : zz_H) (post : Int32 → zz_H → Prop) : wX5_finds ((-1000002) : Int32) h post = post ((-1000002) : Int32) (mF h 1) := finds_i (by decide) (by decide) h post
theorem tell2 (h : zz_H) (post : Int32 → zz_H → Prop) : wX4_tell ((-1000003) : Int32) h post = post ((-1000003) : Int32) (cF h 2) := tell_i (by decide) (by decide) h post
theorem finds2 (h : zz_H) (post : Int32 → zz_H → Prop) : wX5_finds ((-1000003) : Int32) h post = post ((-1000003) : Int32) (mF h 2) := finds_i (by decide) (by decide) h post
theorem tell3 (h : zz_H) (post : Int32 → zz_H → Prop) : wX4_tell ((-1000004) : Int32) h post = post ((-1000004) : Int32) (cF h 3) := tell_i (by decide) (by decide) h post
theorem finds3 (h : zz_H) (post : Int32 → zz_H → Prop) : wX5_finds ((-1000004) : Int32) h post = post ((-1000004) : Int32) (mF h 3) := finds_i (by decide) (by decide) h post
theorem tell4 (h : zz_H) (post : Int32 → zz_H → Prop) : wX4_tell ((-1000005) : Int32) h post = post ((-1000005) : Int32) (cF h 4) := tell_i (by decide) (by decide) h post
theorem finds4 (h : zz_H) (post : Int32 → zz_H → Prop) : wX5_finds ((-1000005) : Int32) h post = post ((-1000005) : Int32) (mF h 4) := finds_i (by decide) (by decide) h post
theorem tell5 (h : zz_H) (post : Int32 → zz_H → Prop) : wX4_tell ((-1000006) : Int32) h post = post ((-1000006) : Int32) (cF h 5) := tell_i (by decide) (by decide) h post
theorem finds5 (h : zz_H) (post : Int32 → zz_H → Prop) : wX5_finds ((-1000006) : Int32) h post = post ((-1000006) : Int32) (mF h 5) := finds_i (by decide) (by decide) h post
theorem tell6 (h : zz_H) (post : Int32 → zz_H → Prop) : wX4_tell ((-1000007) : Int32) h post = post ((-1000007) : Int32) (cF h 6) := tell_i (by decide) (by decide) h post
theorem finds6 (h : zz_H) (post : Int32 → zz_H → Prop) : wX5_finds ((-1000007) : Int32) h post = post ((-1000007) : Int32) (mF h 6) := finds_i (by decide) (by decide) h post
theorem c_isQuestion (x : Int32) (h : zz_H) (post : Int32 → Prop) : wX4_isQuestion x h post = post (if (0 : Int32) ≤ x ∧ x ≤ (7 : Int32) then 1 else 0) := by simp only [wX4_isQuestion, within_eq, zz_zi, true_and]
theorem c_isMarker (x : Int32) (h : zz_H) (post : Int32 → Prop) : wX4_isMarker x h post = post (if (0 : Int32) ≤ x ∧ x ≤ (1 : Int32) then 1 else 0) := by simp only [wX4_isMarker, within_eq, zz_zi, true_and]
theorem c_isKind (x : Int32) (h : zz_H) (post : Int32 → Prop) : wX4_isKind x h post = post (if (0 : Int32) ≤ x ∧ x ≤ (6 : Int32) then 1 else 0) := by simp only [wX4_isKind, within_eq, zz_zi, true_and]
theorem c_isBy (x : Int32) (h : zz_H) (post : Int32 → Prop) : wX4_isBy x h post = post (if (0 : Int32) ≤ x ∧ x ≤ (100 : Int32) then 1 else 0) := by simp only [wX4_isBy, within_eq, zz_zi, true_and]
theorem c_isLine (x : Int32) (h : zz_H) (post : Int32 → Prop) : wX4_isLine x h post = post (if (0 : Int32) ≤ x ∧ x ≤ (400 : Int32) then 1 else 0) := by simp only [wX4_isLine, within_eq, zz_zi, true_and]
theorem c_isSpot (x : Int32) (h : zz_H) (post : Int32 → Prop) : wX4_isSpot x h post = post (if (0 : Int32) ≤ x ∧ x ≤ (9 : Int32) then 1 else 0) := by simp only [wX4_isSpot, within_eq, zz_zi, true_and]
theorem c_isSheet (x : Int32) (h : zz_H) (post : Int32 → Prop) : wX4_isSheet x h post = post (if (0 : Int32) ≤ x ∧ x ≤ (3 : Int32) then 1 else 0) := by simp only [wX4_isSheet, within_eq, zz_zi, true_and]
theorem c_isPupil (x : Int32) (h : zz_H) (post : Int32 → Prop) : wX4_isPupil x h post = post (if (0 : Int32) ≤ x ∧ x ≤ h 1 7 - 1 then 1 else 0) := by simp only [wX4_isPupil, within_eq, zz_zi, true_and]
theorem c_isCurve (x : Int32) (h : zz_H) (post : Int32 → Prop) : wX4_isCurve x h post = post (if (0 : Int32) ≤ x ∧ x ≤ h 1 8 - 1 then 1 else 0) := by simp only [wX4_isCurve, within_eq, zz_zi, true_and]
theorem m_isQuestion (x : Int32) (h : zz_H) (post : Int32 → Prop) : wX5_isQuestion x h post = post (if (0 : Int32) ≤ x ∧ x ≤ (7 : Int32) then 1 else 0) := by simp only [wX5_isQuestion, in_eq, wl_ge0, wl_le7, zz_zi, true_and]
theorem m_isLine (x : Int32) (h : zz_H) (post : Int32 → Prop) : wX5_isLine x h post = post (if (0 : Int32) ≤ x ∧ x ≤ (400 : Int32) then 1 else 0) := by simp only [wX5_isLine, in_eq, wl_ge0, wl_le400, zz_zi, true_and]
theorem m_isOne (x : Int32) (h : zz_H) (post : Int32 → Prop) : wX5_isOne x h post = post (if (0 : Int32) ≤ x ∧ x ≤ (3 : Int32) then 1 else 0) := by simp only [wX5_isOne, in_eq, wl_ge0, wl_le3, zz_zi, true_and]
theorem m_isLetter (x : Int32) (h : zz_H) (post : Int32 → Prop) : wX5_isLetter x h post = post (if (97 : Int32) ≤ x ∧ x ≤ (122 : Int32) then 1 else 0) := by simp only [wX5_isLetter, in_eq, wl_ge97, wl_le122, zz_zi, true_and]
theorem m_isDigit (x : Int32) (h : zz_H) (post : Int32 → Prop) : wX5_isDigit x h post = post (if (48 : Int32) ≤ x ∧ x ≤ (57 : Int32) then 1 else 0) := by simp only [wX5_isDigit, in_eq, wl_ge48, wl_le57, zz_zi, true_and]
theorem m_isPupil (x : Int32) (h : zz_H) (post : Int32 → Prop) : wX5_isPupil x h post = post (if (0 : Int32) ≤ x ∧ x ≤ h 1 17 - 1 then 1 else 0) := by simp only [wX5_isPupil, in_eq, wl_ge0, wl_ww, zz_zi, true_and]
theorem m_isCurve (x : Int32) (h : zz_H) (post : Int32 → Prop) : wX5_isCurve x h post = post (if (0 : Int32) ≤ x ∧ x ≤ h 1 18 - 1 then 1 else 0) := by simp only [wX5_isCurve, in_eq, wl_ge0, wl_ww, zz_zi, true_and]

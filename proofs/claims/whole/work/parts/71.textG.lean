/-! text -/
theorem neg_le0 : ∀ f : Fin 121, ((-1 : Int32) - nI f.val) ≤ 0 := by decide
set_option maxHeartbeats 1000000 in
theorem op_text {c m : zz_H} (hR : Rel c m) : wX4_text c (fun r c' => wX5_text m (fun r' m' => r = r' ∧ Rel c' m')) := by
  obtain ⟨⟨P, C, hW, hM⟩, hK, hF, hT, hS⟩ := id hR
  obtain ⟨T, t1, t2, t3, t4⟩ := hT
  have bP := hW.2.1
  have bC := hW.2.2.2.1
  have hb : ∀ i, i < T → c 30 i = m 6 i := fun i hi => (t4 i hi).1
  unfold wX4_text
  refine c_takeFrom (by omega) hM bP bC _ (fun c1 ho hm1 => ?_)
  unfold wX3_readInto
  rw [sto_eq]
  have e2 : ∀ j, j ≠ 29 → zz_st c1 29 (upd (c1 29) 4 0) j = c1 j := fun j hj => zz_st_ne _ _ hj
  have o1 : ∀ j, (j < 17 ∨ 24 < j) → c1 j = c j := ho
  refine c_step (e := 0) (t := m 6) t1 (by rw [zz_st_self, pk_un (by decide), o1 29 (by omega)]; exact t2) (fun i hi => by rw [e2 30 (by decide), o1 30 (by omega)]; exact hb i hi) (by rw [zz_st_self, pk_us]; rfl) (Nat.zero_le _) _ (fun c3 f1 f2 f3 => ?_)
  have hf0 : skF (m 6) T 0 ≤ T := (rn_spec (fun j => decide (m 6 j = 32)) (Nat.zero_le T)).2.1
  generalize hf : skF (m 6) T 0 = f at f3 hf0
  have h3 : OKc c c3 (m 6) T f (m 1) P C := ⟨fun j j1 j2 => by rw [f1 j j1, e2 j j1, o1 j j2], f2, f3, hf0, hW, hm1.cong (fun j a b => by rw [f1 j (by omega), e2 j (by omega)])⟩
  have m0j : ∀ j, j ≠ 3 → zz_st m 3 (cp (m 1) (m 3) 245) j = m j := fun j hj => zz_st_ne _ _ hj
  have m03 : ∀ i, i < 245 → zz_st m 3 (cp (m 1) (m 3) 245) 3 i = m 1 i := fun i hi => by rw [zz_st_self]; exact cp_at _ _ _ _ hi
  have mod : ∀ post : Int32 → zz_H → Prop, (∀ m0 : zz_H, (∀ j, j ≠ 3 → m0 j = m j) → (∀ i, i < 245 → m0 3 i = m 1 i) → ME m0 (m 6) T (tS (m 6) T (T + 1) 1 f (m 1)) post) → wX5_text m post := by
    intro post hk
    unfold wX5_text
    refine m_puts _ ?_
    have hk := hk _ m0j m03
    generalize zz_st m 3 (cp (m 1) (m 3) 245) = m0 at m0j m03 hk ⊢
    have hp0 : MP m0 (m 6) T := ⟨t1, by rw [m0j 0 (by decide)]; exact t3, fun i _ => by rw [m0j 6 (by decide)]⟩
    rw [sto_eq, sto_eq, zz_st_self, st_st]
    have e0 : ∀ i, i ≠ 9 → i ≠ 11 → zz_st m0 0 (upd (upd (m0 0) 9 0) 11 0) 0 i = m0 0 i := fun i a b => by rw [zz_st_self, pk_un b, pk_un a]
    have ej : ∀ j, j ≠ 0 → zz_st m0 0 (upd (upd (m0 0) 9 0) 11 0) j = m0 j := fun j hj => zz_st_ne _ _ hj
    refine m_token (e := 0) (t := m 6) (T := T) (hp0.cong (e0 7 (by decide) (by decide)) (ej 6 (by decide))) (by rw [zz_st_self, pk_un (by decide), pk_us]; rfl) (Nat.zero_le _) _ (fun m4 a b d9 d10 => ?_)
    rw [hf] at d9 d10
    have h4 : OKm m0 m4 (m 6) T f (m 1) P C := ⟨fun j j0 j1 => by rw [a j j0, ej j j0], fun i i8 i9 i10 i11 => by rw [b i i8 i9, e0 i i9 i11], ⟨d9, d10, by rw [b 11 (by decide) (by decide), zz_st_self, pk_us], hf0⟩, by rw [a 1 (by decide), ej 1 (by decide), m0j 1 (by decide)], hW⟩
    exact m_item hp0 h4 _ (fun m5 h5 => ⟨T + 2, m_text hp0 _ (T + 1) 1 f (m 1) P C m5 (by omega) hf0 hW h5 hk⟩)
  have xb := tS_x (m 6) T (T + 1) 1 f (m 1) hf0 (by omega)
  refine ⟨T + 1, c_text t1 hb _ (T + 1) 1 f (m 1) P C c3 (by omega) (by omega) h3 ?_⟩
  generalize tS (m 6) T (T + 1) 1 f (m 1) = r at xb mod ⊢
  intro c4 hc
  obtain ⟨ok, x, f', s'⟩ := r
  dsimp only at hc xb ⊢
  rw [sto_eq]
  have q29 : ∀ j, j ≠ 29 → zz_st c4 29 (upd (c4 29) 1 0) j = c4 j := fun j hj => zz_st_ne _ _ hj
  have q1 : zz_st c4 29 (upd (c4 29) 1 0) 29 1 = 0 := by rw [zz_st_self, pk_us]
  generalize zz_st c4 29 (upd (c4 29) 1 0) = d at q29 q1 ⊢
  cases ok
  · rw [if_neg Bool.false_ne_true]
    refine ⟨fun _ => ?_, fun v => absurd (neg_le0 ⟨f', by omega⟩) v⟩
    have hd := hc.2 rfl
    refine mod _ (fun m0 m0j m03 m' y hm' _ => ?_)
    have hn := hm'.2 rfl
    obtain ⟨n1, n2, n3, n4⟩ := hn
    unfold wX5_text_j74
    rw [sto_eq]
    have g0 : ∀ j, j ≠ 0 → zz_st m' 0 (upd (m' 0) 7 0) j = m' j := fun j hj => zz_st_ne _ _ hj
    have g7 : zz_st m' 0 (upd (m' 0) 7 0) 0 7 = 0 := by rw [zz_st_self, pk_us]
    have gi : ∀ i, i ≠ 7 → zz_st m' 0 (upd (m' 0) 7 0) 0 i = m' 0 i := fun i hi => by rw [zz_st_self, pk_un hi]
    generalize zz_st m' 0 (upd (m' 0) 7 0) = u at g0 g7 gi ⊢
    refine ⟨fun v => absurd (show u 0 11 = 1 by rw [gi 11 (by decide)]; exact n4) (by rw [v]; decide), fun _ => m_putsBack _ ?_⟩
    have h0 : zz_st u 1 (cp (u 3) (u 1) 245) 0 = u 0 := zz_st_ne _ _ (by decide)
    have hj : ∀ j, j ≠ 1 → zz_st u 1 (cp (u 3) (u 1) 245) j = u j := fun j hj => zz_st_ne _ _ hj
    have h1 : ∀ i, i < 245 → zz_st u 1 (cp (u 3) (u 1) 245) 1 i = m 1 i := fun i hi => by
      rw [zz_st_self, cp_at _ _ _ _ hi, g0 3 (by decide), n1 3 (by decide) (by decide)]
      exact m03 i hi
    generalize zz_st u 1 (cp (u 3) (u 1) 245) = v at h0 hj h1 ⊢
    have vj : ∀ j, j ≠ 0 → j ≠ 1 → j ≠ 3 → v j = m j := fun j a b e => by rw [hj j b, g0 j a, n1 j a b, m0j j e]
    have v4 : v 0 4 = m 0 4 := by rw [h0, gi 4 (by decide), n2 4 (by decide) (by decide) (by decide) (by decide), m0j 0 (by decide)]
    have dj : ∀ j, j ≠ 29 → (j < 17 ∨ 24 < j) → d j = c j := fun j a b => by rw [q29 j a]; exact hd.1 j a b
    refine ⟨by rw [h0, gi 8 (by decide), n3], ⟨P, C, hW.ext h1, (hM.cong (fun k a b => dj k (by omega) (by omega))).ext bP bC h1⟩, hK.cong (fun k a b => dj k (by omega) (by omega)) (by rw [dj 0 (by decide) (by omega)]) v4 (vj 2 (by decide) (by decide) (by decide)), ?_, ⟨0, by decide, by rw [q1]; rfl, by rw [h0, g7]; rfl, fun i hi => absurd hi (by omega)⟩, hS.cong (fun k a => dj k (by omega) (by omega)) (vj 7 (by decide) (by decide) (by decide)) (vj 8 (by decide) (by decide) (by decide)) (vj 9 (by decide) (by decide) (by decide))⟩
    intro k hk
    rw [dj 34 (by decide) (by omega), vj 4 (by decide) (by decide) (by decide)]
    exact hF k hk
  · rw [if_pos rfl]
    refine ⟨fun v => absurd v (nI_nle (by omega) (by omega)), fun _ => ?_⟩
    obtain ⟨P', C', h4⟩ := hc.1 rfl
    obtain ⟨b1, b2, b3, b4, b5, b6⟩ := h4
    refine c_takeFrom (a := 1) (b := 17) (by omega) (b6.cong (fun k a b => q29 k (by omega))) b5.2.1 b5.2.2.2.1 _ (fun c5 ho5 hm5 => ?_)
    refine mod _ (fun m0 m0j m03 m' y hm' hy => ?_)
    rw [hy rfl]
    obtain ⟨P'', C'', n1, n2, n3, n4, n5⟩ := hm'.1 rfl
    unfold wX5_text_j74
    rw [sto_eq]
    have g0 : ∀ j, j ≠ 0 → zz_st m' 0 (upd (m' 0) 7 0) j = m' j := fun j hj => zz_st_ne _ _ hj
    have g7 : zz_st m' 0 (upd (m' 0) 7 0) 0 7 = 0 := by rw [zz_st_self, pk_us]
    have gi : ∀ i, i ≠ 7 → zz_st m' 0 (upd (m' 0) 7 0) 0 i = m' 0 i := fun i hi => by rw [zz_st_self, pk_un hi]
    generalize zz_st m' 0 (upd (m' 0) 7 0) = v at g0 g7 gi ⊢
    refine ⟨fun _ => ?_, fun w => absurd (show v 0 11 = 0 by rw [gi 11 (by decide)]; exact n3.2.2.1) w⟩
    have vj : ∀ j, j ≠ 0 → j ≠ 1 → j ≠ 3 → v j = m j := fun j a b e => by rw [g0 j a, n1 j a b, m0j j e]
    have v4 : v 0 4 = m 0 4 := by rw [gi 4 (by decide), n2 4 (by decide) (by decide) (by decide) (by decide), m0j 0 (by decide)]
    have dj : ∀ j, j ≠ 29 → (j < 1 ∨ 8 < j) → (j < 17 ∨ 24 < j) → c5 j = c j := fun j a a2 b => by rw [ho5 j (by omega), q29 j a]; exact b1 j a b
    have v1 : v 1 = s' := by rw [g0 1 (by decide)]; exact n4
    refine ⟨rfl, ⟨P', C', by rw [v1]; exact b5, by rw [v1]; exact hm5⟩, hK.cong (fun k a b => dj k (by omega) (by omega) (by omega)) (by rw [dj 0 (by decide) (by omega) (by omega)]) v4 (vj 2 (by decide) (by decide) (by decide)), ?_, ⟨0, by decide, by rw [ho5 29 (by omega), q1]; rfl, by rw [g7]; rfl, fun i hi => absurd hi (by omega)⟩, hS.cong (fun k a => dj k (by omega) (by omega) (by omega)) (vj 7 (by decide) (by decide) (by decide)) (vj 8 (by decide) (by decide) (by decide)) (vj 9 (by decide) (by decide) (by decide))⟩
    intro k hk
    rw [dj 34 (by decide) (by omega) (by omega), vj 4 (by decide) (by decide) (by decide)]
    exact hF k hk

/-! the marks by the class, and both sides' rows of marks -/
theorem csS_tail {S : Nat → Nat → Int32} {O : Nat → Int32} {P : Nat} (hP : P ≤ 12) (h : ∀ p q, P ≤ p → p < 12 → q < 8 → S p q = 0) : csS S O 12 = csS S O P := by
  unfold csS
  refine zsum_congr (fun q hq => ?_)
  rw [zsum_tail hP (fun p a b => h p q a b hq)]
theorem c_greatestRaw {c : zz_H} {S : Nat → Nat → Int32} {W O : Nat → Int32} {P : Nat} (h : SC c S W O P) (hP : P ≤ 12) (post : Int32 → Prop) (k : post (grS S P)) : wX1_greatestRaw c post := by
  refine lp_for P (fun j => (zmx (rawS S) j, nI j)) ?_ ?_
  · intro j hj K hK
    refine ⟨fun z => absurd (show nI P ≤ nI j from h.1 ▸ z) (lt_nle hj (by omega)), fun _ => ?_⟩
    show vp_in (nI j) 12 ∧ K (zz_max (zmx (rawS S) j) (c 28 (nI j).toNatClampNeg), nI j + 1)
    rw [nI_clamp (by omega), nI_1, h.2.2.2.2.2.2.2.1 j (by omega)]
    exact ⟨in_nI (by omega) (by decide), hK⟩
  · intro K
    exact ⟨fun _ => k, fun z => absurd (show c 25 3 ≤ nI P from h.1 ▸ nI_le (Nat.le_refl P) (by omega)) z⟩
theorem c_newMean {c : zz_H} {S : Nat → Nat → Int32} {W O : Nat → Int32} {P : Nat} (h : SC c S W O P) (hP : P ≤ 12) (h0 : 0 < P) (post : Int32 → Prop) (k : post (nmS S O P)) : wX1_newMean c post := by
  unfold wX1_newMean
  rw [h.1, h.2.2.2.2.1, csS_tail hP h.2.2.2.2.2.2.2.2]
  exact ⟨fun z => absurd z (nI_nle h0 (by omega)), fun _ => ⟨nI_ne0 h0 (by omega), k⟩⟩
theorem c_stretched {c : zz_H} {S : Nat → Nat → Int32} {W O : Nat → Int32} {P p : Nat} (h : SC c S W O P) (hP : P ≤ 12) (hp : p < 12) (post : Int32 → Prop) (k : post (strS S P p)) : wX1_stretched (nI p) c post := by
  unfold wX1_stretched
  refine c_greatestRaw h hP _ ?_
  unfold strS at k
  have g := zmx_pos (rawS S) P
  rw [nI_clamp (by omega), h.2.2.2.2.2.2.2.1 p hp]
  refine ⟨fun z => ?_, fun z => ⟨in_nI hp (by decide), ?_⟩⟩
  · rw [fa_le] at z
    rw [if_pos ((fa_eq _ _).mpr (by have h0 : (0 : Int32).toInt = 0 := rfl
                                    have : (grS S P).toInt = (zmx (rawS S) P).toInt := rfl
                                    omega))] at k
    exact k
  · have ne : ¬ grS S P = 0 := fun e => z (by rw [e]; exact (fa_le _ _).mpr (Int.le_refl _))
    rw [if_neg ne] at k
    exact ⟨ne, k⟩
theorem c_root {c : zz_H} {n : Nat} (hn : n ≤ 10000) (post : Int32 → Prop) (k : post (nI (rtn n))) : wX1_rootOf (nI n) c post := by
  obtain ⟨h1, h2, h3⟩ := rtn_spec hn
  refine lp_for (rtn n) (fun j => nI j) ?_ ?_
  · intro j hj K hK
    refine ⟨fun h => absurd h (lt_nle (N := 100) (by omega) (by decide)), fun _ => ⟨fun h => absurd ((sq_lt hn (by omega)).mp h) (h3 j hj), fun _ => ?_⟩⟩
    show K (nI j + 1)
    rw [nI_1]; exact hK
  · intro K
    exact ⟨fun _ => k, fun _ => ⟨fun _ => k, fun h => absurd ((sq_lt hn h1).mpr h2) h⟩⟩
theorem c_shared {c : zz_H} {S : Nat → Nat → Int32} {W O : Nat → Int32} {P p : Nat} (h : SC c S W O P) (hP : P ≤ 12) (hp : p < 12) (b : Int32) (post : Int32 → Prop) (k : post (shS S P b p)) : wX1_shared b (nI p) c post := by
  refine lp_for P (fun j => (1 + zsum (fun k => if rawS S k ≤ rawS S p then 0 else 1) j, nI j)) ?_ ?_
  · intro j hj K hK
    refine ⟨fun z => absurd (show nI P ≤ nI j from h.1 ▸ z) (lt_nle hj (by omega)), fun _ => ?_⟩
    have hK : K (1 + (zsum (fun k => if rawS S k ≤ rawS S p then 0 else 1) j + (if rawS S j ≤ rawS S p then 0 else 1)), nI (j + 1)) := hK
    rw [← Int32.add_assoc] at hK
    generalize 1 + zsum (fun k => if rawS S k ≤ rawS S p then (0 : Int32) else 1) j = z at hK ⊢
    show vp_in (nI j) 12 ∧ (vp_in (nI p) 12 ∧ ((c 28 (nI j).toNatClampNeg ≤ c 28 (nI p).toNatClampNeg → K (z, nI j + 1)) ∧ (¬ c 28 (nI j).toNatClampNeg ≤ c 28 (nI p).toNatClampNeg → K (z + 1, nI j + 1))))
    rw [nI_clamp (by omega), nI_clamp (by omega), nI_1, h.2.2.2.2.2.2.2.1 p hp, h.2.2.2.2.2.2.2.1 j (by omega)]
    refine ⟨in_nI (by omega) (by decide), in_nI hp (by decide), fun q => ?_, fun q => ?_⟩
    · rw [if_pos q, Int32.add_zero] at hK; exact hK
    · rw [if_neg q] at hK; exact hK
  · intro K
    refine ⟨fun _ => ?_, fun z => absurd (show c 25 3 ≤ nI P from h.1 ▸ nI_le (Nat.le_refl P) (by omega)) z⟩
    show wX1_shared_j39 b c post (plS S P p)
    unfold wX1_shared_j39
    unfold shS at k
    rw [h.1]
    refine ⟨fun q => ⟨fun q2 => ?_, fun q2 => ?_⟩, fun q => ?_⟩
    · rw [if_pos q, if_pos q2] at k; exact k
    · rw [if_pos q, if_neg q2] at k; exact k
    · rw [if_neg q] at k; exact k
theorem c_linked {c : zz_H} {S : Nat → Nat → Int32} {W O : Nat → Int32} {P p : Nat} (h : SC c S W O P) (hP : P ≤ 12) (hp : p < P) (post : Int32 → Prop) (k : post (lkS S W O P p)) : wX1_linked (nI p) c post := by
  unfold wX1_linked
  refine ⟨in_nI (by omega) (by decide), c_newMean h hP (by omega) _ ?_⟩
  rw [nI_clamp (by omega), h.2.2.2.2.2.2.2.1 p (by omega), h.2.1, h.2.2.2.1]
  exact k
theorem le_sub {x y : Int32} (hx : zb x 0 1000) (hy : zb y 0 x.toInt) : (x - y ≤ 0) ↔ x - y = 0 := by
  have e : (x - y).toInt = x.toInt - y.toInt := fb_subI (by have := hx.1; have := hx.2; have := hy.1; have := hy.2; omega) (by have := hx.1; have := hx.2; have := hy.1; have := hy.2; omega)
  rw [fa_le, fa_eq, e]
  have h0 : (0 : Int32).toInt = 0 := rfl
  have := hy.2
  omega
theorem zsum_one {f : Nat → Int32} : ∀ {n i : Nat}, i < n → n ≤ 100 → (∀ i, i < n → zb (f i) 0 40) → (f i).toInt ≤ (zsum f n).toInt
  | 0, i, h, _, _ => absurd h (Nat.not_lt_zero i)
  | n + 1, i, h, hn, hb => by
    have h1 := zsum_zb (f := f) (B := 40) (n := n) (fun j hj => hb j (by omega)) (by omega)
    have h2 := hb n (by omega)
    have e2 : (zsum f n + f n).toInt = (zsum f n).toInt + (f n).toInt := fb_addI (by have := h1.1; have := h2.1; omega) (by have := h1.2; have := h2.2; omega)
    show (f i).toInt ≤ (zsum f n + f n).toInt
    rw [e2]
    by_cases e : i = n
    · subst e; have := h1.1; omega
    · have := zsum_one (f := f) (show i < n by omega) (by omega) (fun j hj => hb j (by omega))
      have := h2.1
      omega
theorem c_leavingOut {c : zz_H} {S : Nat → Nat → Int32} {W O : Nat → Int32} {P p : Nat} (h : SC c S W O P) (ok : OK S W P) (hp : p < P) {b : Int32} (hb : zb b 0 100) (post : Int32 → Prop) (k : post (drS S W b p)) : wX1_leavingOut (zz_rem b 8) (nI p) c post := by
  obtain ⟨q, hq, eq⟩ := rem8 hb
  have hP := ok.1
  unfold drS at k
  rw [eq, nI_clamp (by omega)] at k
  rw [eq]
  unfold wX1_leavingOut wX1_scoreOf
  rw [ix_ps, nI_clamp (by omega), nI_clamp (by omega), nI_clamp (by omega), h.2.2.2.2.2.1 q hq, h.2.2.2.2.2.2.1 p q (by omega) hq, h.2.2.2.2.2.2.2.1 p (by omega), h.2.1]
  have hf := ok.full
  have hw : zb (W q) 0 (fullW W).toInt := ⟨(ok.2.1 q hq).1, zsum_one (f := W) hq (by decide) (fun i hi => ok.2.1 i hi)⟩
  have key := le_sub (x := fullW W) (y := W q) ⟨hf.1, by have := hf.2; omega⟩ hw
  refine ⟨in_nI hq (by decide), in_nI (by omega) (by decide), in_nI (by omega) (by decide), fun z => ?_, fun z => ?_⟩
  · rw [if_pos (key.mp z)] at k; exact k
  · have ne : ¬ fullW W - W q = 0 := fun e => z (key.mpr e)
    rw [if_neg ne] at k
    exact ⟨ne, k⟩
theorem c_markOf {c : zz_H} {S : Nat → Nat → Int32} {W O : Nat → Int32} {P p : Nat} (h : SC c S W O P) (ok : OK S W P) (hp : p < P) (kd : Int32) {b : Int32} (hb : zb b 0 100) (post : Int32 → Prop) (kk : post (mkS S W O P kd b p)) : wX1_markOf kd b (nI p) c post := by
  have hP := ok.1
  unfold wX1_markOf
  unfold mkS at kk
  rw [nI_clamp (by omega), h.2.2.2.2.2.2.2.1 p (by omega), h.2.1]
  refine ⟨fun q => ?_, fun q => ?_, fun q => ?_, fun q => ?_, fun q => ?_, fun q => ?_, fun n1 n2 n3 n4 n5 n6 => ?_⟩
  · rw [if_pos q] at kk; exact ⟨in_nI (by omega) (by decide), kk⟩
  · subst q; exact c_stretched h hP (by omega) _ kk
  · subst q
    refine c_stretched h hP (by omega) _ ?_
    have kk : post (rtI (100 * strS S P p)) := kk
    obtain ⟨n, hn, en⟩ := ok.str hp
    rw [en] at kk ⊢
    have e2 : (100 : Int32) * nI n = nI (100 * n) := pk_mul 100 n
    rw [e2] at kk ⊢
    refine c_root (by omega) _ ?_
    unfold rtI at kk
    rw [nI_clamp (by omega)] at kk
    exact kk
  · subst q; exact c_shared h hP (by omega) _ _ kk
  · subst q; exact c_linked h hP hp _ kk
  · subst q; exact c_leavingOut h ok hp hb _ kk
  · rw [if_neg n1, if_neg n2, if_neg n3, if_neg n4, if_neg n5, if_neg n6] at kk; exact ⟨in_nI (by omega) (by decide), kk⟩
theorem mkS_congr {S S' : Nat → Nat → Int32} {W W' O O' : Nat → Int32} {P p : Nat} (e : ∀ p q, p < P → q < 8 → S p q = S' p q) (eW : ∀ q, q < 8 → W q = W' q) (eO : ∀ q, q < 8 → O q = O' q) (hp : p < P) (kd : Int32) {b : Int32} (hb : zb b 0 100) : mkS S W O P kd b p = mkS S' W' O' P kd b p := by
  have r : ∀ p, p < P → rawS S p = rawS S' p := fun p hp => zsum_congr (fun q hq => e p q hp hq)
  have f : fullW W = fullW W' := zsum_congr eW
  have g : grS S P = grS S' P := zmx_congr r
  have st : strS S P p = strS S' P p := by unfold strS; rw [g, r p hp]
  have pl : plS S P p = plS S' P p := by
    unfold plS
    rw [zsum_congr (g := fun k => if rawS S' k ≤ rawS S' p then 0 else 1) (fun k hk => by rw [r k hk, r p hp])]
  have o : omO O = omO O' := zsum_congr (fun q hq => by rw [eO q hq])
  have cs : csS S O P = csS S' O' P := by
    unfold csS
    exact zsum_congr (fun q hq => by rw [eO q hq, zsum_congr (fun p hp => e p q hp hq)])
  obtain ⟨q, hq, eq⟩ := rem8 hb
  unfold mkS shS lkS drS nmS
  rw [r p hp, f, st, pl, o, cs, eq, nI_clamp (by omega), eW q hq, e p q hp hq]
def MK (s : Nat → Int32) (P : Nat) (kd b : Int32) (p : Nat) : Int32 := mkS (sc s) s (fun q => s (8 + q)) P kd b p
theorem sS_ok {s : Nat → Int32} {P : Nat} (ok : OK (sc s) s P) : OK (sS s P) s P := ⟨ok.1, ok.2.1, fun p q hp hq => by unfold sS; rw [if_pos hp]; exact ok.2.2 p q hp hq⟩
theorem MK_sS {s : Nat → Int32} {P p : Nat} (hp : p < P) (kd : Int32) {b : Int32} (hb : zb b 0 100) : mkS (sS s P) s (fun q => s (8 + q)) P kd b p = MK s P kd b p := mkS_congr (fun p q hp _ => if_pos hp) (fun _ _ => rfl) (fun _ _ => rfl) hp kd hb
theorem c_markAll {c : zz_H} {S : Nat → Nat → Int32} {W O : Nat → Int32} {P : Nat} (h : SC c S W O P) (ok : OK S W P) (kd : Int32) {b : Int32} (hb : zb b 0 100) {k : Nat} (hk : 28 < k) (post : Int32 → zz_H → Prop) (kk : ∀ g : Nat → Int32, (∀ p, p < P → g p = mkS S W O P kd b p) → post 0 (zz_st c k g)) : wX1_markAll kd b k c post := by
  have hP := ok.1
  refine lp_inv P (fun j x => x.1 = nI j ∧ ∃ g : Nat → Int32, x.2 = zz_st c k g ∧ ∀ p, p < j → g p = mkS S W O P kd b p) ⟨rfl, c k, ?_, fun p hp => absurd hp (by omega)⟩ ?_ ?_
  · funext a
    unfold zz_st
    by_cases e : a = k
    · rw [if_pos e, e]
    · rw [if_neg e]
  · rintro j ⟨x, d⟩ K hj ⟨e1, g, e2, hg⟩ hK
    have e1 : x = nI j := e1
    have e2 : d = zz_st c k g := e2
    subst e1
    subst e2
    have h' : SC (zz_st c k g) S W O P := h.cong (zz_st_ne _ _ (by omega)) (zz_st_ne _ _ (by omega)) (zz_st_ne _ _ (by omega)) (zz_st_ne _ _ (by omega))
    refine ⟨fun z => absurd (show nI P ≤ nI j from h'.1 ▸ z) (lt_nle hj (by omega)), fun _ => ?_⟩
    refine c_markOf h' ok hj kd hb _ ?_
    dsimp only
    rw [nI_clamp (by omega), sto_eq, zz_st_self]
    refine ⟨in_nI (by omega) (by decide), hK _ ⟨nI_1 j, upd g j (mkS S W O P kd b j), ?_, fun p hp => ?_⟩⟩
    · funext a
      unfold zz_st
      by_cases e : a = k
      · simp [e]
      · simp [e]
    · by_cases e : p = j
      · subst e; rw [pk_us]
      · rw [pk_un e]; exact hg p (by omega)
  · rintro ⟨x, d⟩ K ⟨e1, g, e2, hg⟩
    have e1 : x = nI P := e1
    have e2 : d = zz_st c k g := e2
    subst e1
    subst e2
    refine ⟨fun _ => kk g hg, fun z => absurd (show zz_st c k g 25 3 ≤ nI P from ?_) z⟩
    rw [zz_st_ne _ _ (by omega), h.1]
    exact nI_le (Nat.le_refl P) (by omega)
theorem m_findMarks {m : zz_H} {P C k : Nat} (hW : WF (m 1) P C) (hk : k < C) (post : Int32 → zz_H → Prop) (kk : ∀ g : Nat → Int32, (∀ p, p < P → g p = MK (m 1) P (m 1 (223 + 2 * k)) (m 1 (224 + 2 * k)) p) → post 0 (zz_st m 5 g)) : wX5_findMarks (nI k) m post := by
  have hP := hW.2.1
  refine lp_inv P (fun j x => x.1 = nI j ∧ ∃ g : Nat → Int32, x.2 = zz_st m 5 g ∧ ∀ p, p < j → g p = MK (m 1) P (m 1 (223 + 2 * k)) (m 1 (224 + 2 * k)) p) ⟨rfl, m 5, ?_, fun p hp => absurd hp (by omega)⟩ ?_ ?_
  · funext a
    unfold zz_st
    by_cases e : a = 5
    · rw [if_pos e, e]
    · rw [if_neg e]
  · rintro j ⟨x, d⟩ K hj ⟨e1, g, e2, hg⟩ hK
    have e1 : x = nI j := e1
    have e2 : d = zz_st m 5 g := e2
    subst e1
    subst e2
    have e5 : zz_st m 5 g 1 = m 1 := zz_st_ne _ _ (by decide)
    have hW' : WF (zz_st m 5 g 1) P C := by rw [e5]; exact hW
    refine ⟨fun z => absurd (show nI P ≤ nI j from hW'.1 ▸ z) (lt_nle hj (by omega)), fun _ => ?_⟩
    refine m_markOf hW' hk hj _ ?_
    dsimp only
    rw [nI_clamp (by omega), sto_eq, zz_st_self, e5]
    refine ⟨in_nI (by omega) (by decide), hK _ ⟨nI_1 j, upd g j (MK (m 1) P (m 1 (223 + 2 * k)) (m 1 (224 + 2 * k)) j), ?_, fun p hp => ?_⟩⟩
    · funext a
      unfold zz_st
      by_cases e : a = 5
      · simp only [e, if_true]; rfl
      · simp [e]
    · by_cases e : p = j
      · subst e; rw [pk_us]
      · rw [pk_un e]; exact hg p (by omega)
  · rintro ⟨x, d⟩ K ⟨e1, g, e2, hg⟩
    have e1 : x = nI P := e1
    have e2 : d = zz_st m 5 g := e2
    subst e1
    subst e2
    refine ⟨fun _ => kk g hg, fun z => absurd (show zz_st m 5 g 1 17 ≤ nI P from ?_) z⟩
    rw [zz_st_ne _ _ (by decide), hW.1]
    exact nI_le (Nat.le_refl P) (by omega)
/-- the class works the marks out: Scores and the row of marks differ, nothing else -/
theorem c_workOut {c : zz_H} {s : Nat → Int32} {P C k : Nat} (hW : WF s P C) (hM : PM c 1 s P C) (hk : k < C) (post : Int32 → zz_H → Prop) (kk : ∀ c', SE c c' → (∀ j, 33 ≤ j → c' j = c j) → SC c' (sS s P) s (fun q => s (8 + q)) P → (∀ p, p < P → c' 32 p = MK s P (s (223 + 2 * k)) (s (224 + 2 * k)) p) → post 0 c') : wX4_workOut (nI k) c post := by
  have hP := hW.2.1
  have hC := hW.2.2.2.1
  have hb := (hW.2.2.2.2.2.2.2.2.1 k hk).2
  unfold wX4_workOut
  refine c_read hM hP _ (fun c1 ho hs => ?_)
  have v : vp_in (nI k) 6 := in_nI (by omega) (by decide)
  refine ⟨v, v, ?_⟩
  rw [nI_clamp (by omega), ho 6 (by omega), ho 7 (by omega), show c 6 k = s (223 + 2 * k) from (hM.2.2.2.2.2.2.2.1 k hk).1, show c 7 k = s (224 + 2 * k) from (hM.2.2.2.2.2.2.2.1 k hk).2]
  refine c_markAll hs (sS_ok hW.ok) _ hb (by decide) _ (fun g hg => ?_)
  refine kk _ (fun j hj => ?_) (fun j hj => ?_) (hs.cong (zz_st_ne _ _ (by decide)) (zz_st_ne _ _ (by decide)) (zz_st_ne _ _ (by decide)) (zz_st_ne _ _ (by decide))) (fun p hp => ?_)
  · rw [zz_st_ne _ _ (by omega)]; exact ho j (by omega)
  · rw [zz_st_ne _ _ (by omega)]; exact ho j (by omega)
  · rw [zz_st_self, hg p hp, MK_sS hp _ hb]

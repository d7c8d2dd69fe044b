/-! sums of ints, the marks in plain words -/
def zsum (f : Nat → Int32) : Nat → Int32
  | 0 => 0
  | n + 1 => zsum f n + f n
theorem zsum_congr {f g : Nat → Int32} : ∀ {n : Nat}, (∀ i, i < n → f i = g i) → zsum f n = zsum g n
  | 0, _ => rfl
  | n + 1, h => by
    show zsum f n + f n = zsum g n + g n
    rw [zsum_congr (fun i hi => h i (by omega)), h n (by omega)]
theorem zsum_upd (f : Nat → Int32) (v : Int32) {i : Nat} : ∀ {n : Nat}, i < n → zsum (upd f i v) n = zsum f n + (v - f i)
  | 0, h => absurd h (Nat.not_lt_zero i)
  | n + 1, h => by
    show zsum (upd f i v) n + upd f i v n = zsum f n + f n + (v - f i)
    by_cases e : i = n
    · subst e
      rw [pk_us, zsum_congr (g := f) (fun j hj => pk_un (by omega))]
      grind
    · rw [zsum_upd f v (show i < n by omega), pk_un (Ne.symm e)]
      grind
theorem zsum_upd_out (f : Nat → Int32) (v : Int32) {i n : Nat} (h : n ≤ i) : zsum (upd f i v) n = zsum f n := zsum_congr (fun j hj => pk_un (by omega))
theorem zsum_tail {f : Nat → Int32} {m : Nat} : ∀ {n : Nat}, m ≤ n → (∀ i, m ≤ i → i < n → f i = 0) → zsum f n = zsum f m
  | 0, h, _ => by rw [show m = 0 by omega]
  | n + 1, h, hz => by
    by_cases e : m = n + 1
    · rw [e]
    · show zsum f n + f n = _
      rw [zsum_tail (show m ≤ n by omega) (fun i a b => hz i a (by omega)), hz n (by omega) (by omega), Int32.add_zero]
theorem zsum_zero {f : Nat → Int32} {n : Nat} (h : ∀ i, i < n → f i = 0) : zsum f n = 0 := by
  rw [zsum_tail (m := 0) (Nat.zero_le n) (fun i _ hi => h i hi)]; rfl
theorem zsum_zb {f : Nat → Int32} {B : Nat} : ∀ {n : Nat}, (∀ i, i < n → zb (f i) 0 B) → n * B < 2147483648 → zb (zsum f n) 0 ((n * B : Nat) : Int)
  | 0, _, _ => ⟨(show (0 : Int) ≤ (0 : Int32).toInt by decide), by show (0 : Int) ≤ _; omega⟩
  | n + 1, h, hb => by
    have e : (n + 1) * B = n * B + B := Nat.succ_mul n B
    have h1 := zsum_zb (f := f) (B := B) (n := n) (fun i hi => h i (by omega)) (by omega)
    have h2 := h n (by omega)
    obtain ⟨a1, a2⟩ := h1
    obtain ⟨b1, b2⟩ := h2
    have e2 : (zsum f n + f n).toInt = (zsum f n).toInt + (f n).toInt := fb_addI (by omega) (by omega)
    show 0 ≤ (zsum f n + f n).toInt ∧ (zsum f n + f n).toInt ≤ _
    rw [e2, e]
    omega
def zmx (f : Nat → Int32) : Nat → Int32
  | 0 => 0
  | n + 1 => zz_max (zmx f n) (f n)
theorem max_toInt (x y : Int32) : (zz_max x y).toInt = max x.toInt y.toInt := by
  unfold zz_max
  by_cases h : x < y
  · rw [if_pos h]; rw [fa_lt] at h; omega
  · rw [if_neg h]; rw [fa_lt] at h; omega
theorem min_toInt (x y : Int32) : (zz_min x y).toInt = min x.toInt y.toInt := by
  unfold zz_min
  by_cases h : y < x
  · rw [if_pos h]; rw [fa_lt] at h; omega
  · rw [if_neg h]; rw [fa_lt] at h; omega
theorem zmx_congr {f g : Nat → Int32} : ∀ {n : Nat}, (∀ i, i < n → f i = g i) → zmx f n = zmx g n
  | 0, _ => rfl
  | n + 1, h => by
    show zz_max (zmx f n) (f n) = zz_max (zmx g n) (g n)
    rw [zmx_congr (fun i hi => h i (by omega)), h n (by omega)]
theorem zmx_pos (f : Nat → Int32) : ∀ n : Nat, 0 ≤ (zmx f n).toInt
  | 0 => (show (0 : Int) ≤ (0 : Int32).toInt by decide)
  | n + 1 => by
    show 0 ≤ (zz_max (zmx f n) (f n)).toInt
    rw [max_toInt]
    have := zmx_pos f n
    omega
theorem zmx_ge (f : Nat → Int32) : ∀ {n i : Nat}, i < n → (f i).toInt ≤ (zmx f n).toInt
  | 0, i, h => absurd h (Nat.not_lt_zero i)
  | n + 1, i, h => by
    show (f i).toInt ≤ (zz_max (zmx f n) (f n)).toInt
    rw [max_toInt]
    by_cases e : i = n
    · subst e; omega
    · have := zmx_ge f (show i < n by omega)
      omega
theorem zmx_le {f : Nat → Int32} {B : Int} (hB : 0 ≤ B) : ∀ {n : Nat}, (∀ i, i < n → (f i).toInt ≤ B) → (zmx f n).toInt ≤ B
  | 0, _ => hB
  | n + 1, h => by
    show (zz_max (zmx f n) (f n)).toInt ≤ B
    rw [max_toInt]
    have := zmx_le hB (n := n) (fun i hi => h i (by omega))
    have := h n (by omega)
    omega
def sc (s : Nat → Int32) (p q : Nat) : Int32 := (s (20 + 17 * p + q) + s (28 + 17 * p + q)) / 2
def rawS (S : Nat → Nat → Int32) (p : Nat) : Int32 := zsum (S p) 8
def fullW (W : Nat → Int32) : Int32 := zsum W 8
def omO (O : Nat → Int32) : Int32 := zsum (fun q => if 0 ≤ O q then O q else 0) 8
def csS (S : Nat → Nat → Int32) (O : Nat → Int32) (P : Nat) : Int32 := zsum (fun q => if 0 ≤ O q then zsum (fun p => S p q) P else 0) 8
def nmS (S : Nat → Nat → Int32) (O : Nat → Int32) (P : Nat) : Int32 := 10 * csS S O P / nI P
def grS (S : Nat → Nat → Int32) (P : Nat) : Int32 := zmx (rawS S) P
def strS (S : Nat → Nat → Int32) (P p : Nat) : Int32 := if grS S P = 0 then 0 else 100 * rawS S p / grS S P
def rtn (n : Nat) : Nat := fa_first (fun r => decide (n < (r + 1) * (r + 1))) 101
def rtI (v : Int32) : Int32 := nI (rtn v.toNatClampNeg)
def plS (S : Nat → Nat → Int32) (P p : Nat) : Int32 := 1 + zsum (fun k => if rawS S k ≤ rawS S p then 0 else 1) P
def shS (S : Nat → Nat → Int32) (P : Nat) (b : Int32) (p : Nat) : Int32 := if b * nI P < 100 * plS S P p then (if (b + 100) / 2 * nI P < 100 * plS S P p then 30 else 60) else 100
def lkS (S : Nat → Nat → Int32) (W O : Nat → Int32) (P p : Nat) : Int32 := zz_max 0 (zz_min (fullW W) (rawS S p + (omO O - nmS S O P) / 10))
def drS (S : Nat → Nat → Int32) (W : Nat → Int32) (b : Int32) (p : Nat) : Int32 := if fullW W - W (zz_rem b 8).toNatClampNeg = 0 then 0 else fullW W * (rawS S p - S p (zz_rem b 8).toNatClampNeg) / (fullW W - W (zz_rem b 8).toNatClampNeg)
def mkS (S : Nat → Nat → Int32) (W O : Nat → Int32) (P : Nat) (k b : Int32) (p : Nat) : Int32 :=
  if k = 1 then zz_min (rawS S p + b) (fullW W) else if k = 2 then strS S P p else if k = 3 then rtI (100 * strS S P p) else if k = 4 then shS S P b p else if k = 5 then lkS S W O P p else if k = 6 then drS S W b p else rawS S p
/-- what the marks need: points in their bounds -/
def OK (S : Nat → Nat → Int32) (W : Nat → Int32) (P : Nat) : Prop := P ≤ 12 ∧ (∀ q, q < 8 → zb (W q) 0 40) ∧ ∀ p q, p < P → q < 8 → zb (S p q) 0 (W q).toInt
theorem OK.raw {S : Nat → Nat → Int32} {W : Nat → Int32} {P p : Nat} (h : OK S W P) (hp : p < P) : zb (rawS S p) 0 320 := zsum_zb (B := 40) (fun q hq => by
  have h1 := h.2.2 p q hp hq
  have h2 := h.2.1 q hq
  exact ⟨h1.1, by have := h1.2; have := h2.2; omega⟩) (by decide)
theorem OK.full {S : Nat → Nat → Int32} {W : Nat → Int32} {P : Nat} (h : OK S W P) : zb (fullW W) 0 320 := zsum_zb (B := 40) (fun q hq => h.2.1 q hq) (by decide)
theorem half_zb {x y : Int32} {B : Int} (hB : B ≤ 1000) (hx : zb x 0 B) (hy : zb y 0 B) : zb ((x + y) / 2) 0 B := by
  obtain ⟨a, ha, rfl⟩ := zb_nI (x := x) (n := B.toNat) ⟨hx.1, by have := hx.2; have := hx.1; omega⟩
  obtain ⟨b, hb, rfl⟩ := zb_nI (x := y) (n := B.toNat) ⟨hy.1, by have := hy.2; have := hy.1; omega⟩
  have := hx.1; have := hx.2
  rw [nI_toInt (by omega)] at *
  rw [nI_add]
  show zb (nI (a + b) / nI 2) 0 B
  rw [pk_div (by omega) (by decide) (by decide)]
  exact nI_zb (by omega) (by omega)
theorem WF.ok {s : Nat → Int32} {P C : Nat} (h : WF s P C) : OK (sc s) s P := by
  refine ⟨h.2.1, h.2.2.2.2.1, fun p q hp hq => ?_⟩
  have h1 := h.2.2.2.2.2.2.2.1 p q 0 hp hq (by decide)
  have h2 := h.2.2.2.2.2.2.2.1 p q 1 hp hq (by decide)
  have h3 := h.2.2.2.2.1 q hq
  rw [show 20 + 17 * p + 8 * 0 + q = 20 + 17 * p + q by omega] at h1
  rw [show 20 + 17 * p + 8 * 1 + q = 28 + 17 * p + q by omega] at h2
  exact half_zb (by have := h3.2; omega) h1 h2

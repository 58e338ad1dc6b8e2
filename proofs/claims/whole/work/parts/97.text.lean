/-! ===== TEXTS as numbers: B the bytes (each -128 .. 127), n how many; a TOKEN is known by where it begins ===== -/
abbrev Bt : Type := Nat → Int
abbrev isL (c : Int) : Prop := 97 ≤ c ∧ c ≤ 122
abbrev isD (c : Int) : Prop := 48 ≤ c ∧ c ≤ 57
abbrev isBk (c : Int) : Prop := c = 32 ∨ c = 10
/-- the first place from s on, of d, that has not the property -/
def rn (P : Int → Prop) [DecidablePred P] (B : Bt) : Nat → Nat → Nat
  | 0, s => s
  | d + 1, s => if P (B s) then rn P B d (s + 1) else s
theorem rn_y {P : Int → Prop} [DecidablePred P] {B : Bt} {n s : Nat} (h : s < n) (p : P (B s)) : rn P B (n - s) s = rn P B (n - (s + 1)) (s + 1) := by
  rw [show n - s = (n - (s + 1)) + 1 by omega]
  exact if_pos p
theorem rn_n {P : Int → Prop} [DecidablePred P] {B : Bt} {n s : Nat} (h : n ≤ s ∨ ¬ P (B s)) : rn P B (n - s) s = s := by
  by_cases c : n ≤ s
  · rw [show n - s = 0 by omega]; rfl
  · rw [show n - s = (n - (s + 1)) + 1 by omega]
    exact if_neg (h.resolve_left c)
theorem rn_g {P : Int → Prop} [DecidablePred P] {B : Bt} : ∀ (d s : Nat), s ≤ rn P B d s ∧ rn P B d s ≤ s + d ∧ (∀ p, s ≤ p → p < rn P B d s → P (B p)) ∧ (rn P B d s < s + d → ¬ P (B (rn P B d s)))
  | 0, s => ⟨Nat.le_refl _, Nat.le_refl _, fun p h1 h2 => absurd h2 (by show ¬ p < s; omega), fun h => absurd h (by show ¬ s < s + 0; omega)⟩
  | d + 1, s => by
    by_cases c : P (B s)
    · have e : rn P B (d + 1) s = rn P B d (s + 1) := if_pos c
      obtain ⟨a1, a2, a3, a4⟩ := rn_g (P := P) (B := B) d (s + 1)
      rw [e]
      refine ⟨by omega, by omega, fun p h1 h2 => ?_, fun h => a4 (by omega)⟩
      by_cases z : p = s
      · rw [z]; exact c
      · exact a3 p (by omega) h2
    · have e : rn P B (d + 1) s = s := if_neg c
      rw [e]
      exact ⟨Nat.le_refl _, by omega, fun p h1 h2 => by omega, fun _ => c⟩
theorem rn_b {P : Int → Prop} [DecidablePred P] {B : Bt} {n s : Nat} (h : s ≤ n) : s ≤ rn P B (n - s) s ∧ rn P B (n - s) s ≤ n := by
  have := rn_g (P := P) (B := B) (n - s) s
  omega
def tE (B : Bt) (n s : Nat) : Nat := if n ≤ s then s else if isL (B s) then rn isL B (n - s) s else if isD (B s) then rn isD B (n - s) s else s + 1
/-- what sort of TOKEN: 0 the end, 1 a WORD, 2 a NUMBER, 3 a SIGN, 4 none -/
def tK (B : Bt) (n s : Nat) : Int := if n ≤ s then 0 else if isL (B s) then 1 else if isD (B s) then (if tE B n s - s ≤ 4 then 2 else 4) else if 59 ≤ B s ∧ B s ≤ 62 then 3 else 4
def dg (B : Bt) : Nat → Nat → Int
  | 0, _ => 0
  | d + 1, s => dg B d s * 10 + (B (s + d) - 48)
def tN (B : Bt) (n s : Nat) : Int := dg B (tE B n s - s) s
def ltr (B : Bt) : Nat → Nat → List Nat
  | 0, _ => []
  | d + 1, s => (B (s + d) - 96).toNat :: ltr B d s
def tL (B : Bt) (n s : Nat) : List Nat := ltr B (tE B n s - s) s
/-- the WORDS, as the class numbers them, the last letter first -/
def KL : List (List Nat) := [[13, 15, 15, 18], [25, 2], [5, 14, 9, 12], [19, 4, 14, 5, 2], [7, 14, 9, 8, 20], [20, 1], [8, 20, 18, 15, 23], [7, 5, 12], [7, 9, 2], [4, 12, 5, 9, 25], [20, 8, 7, 9, 14], [16, 5, 5, 23, 19], [5, 22, 15, 13], [15, 20], [25, 14, 1], [14, 5, 8, 23], [19, 4, 18, 1, 15, 2], [5, 21, 12, 1, 22], [19, 4, 12, 15, 8], [16, 15, 15, 12], [4, 14, 5], [16, 15, 20, 19]]
def tW (B : Bt) (n s : Nat) : Int := if tK B n s = 1 then fnd (fun i => KL.getD i [] = tL B n s) 22 0 else -1
def nx (B : Bt) (n s : Nat) : Nat := rn isBk B (n - tE B n s) (tE B n s)
theorem tE_b {B : Bt} {n s : Nat} (h : s ≤ n) : s ≤ tE B n s ∧ tE B n s ≤ n := by
  unfold tE
  split
  · omega
  · split
    · exact rn_b h
    · split
      · exact rn_b h
      · omega
theorem tE_lt {B : Bt} {n s : Nat} (h : s < n) : s < tE B n s := by
  unfold tE
  rw [if_neg (by omega)]
  split
  · rename_i c
    rw [rn_y h c]
    have := (rn_g (P := isL) (B := B) (n - (s + 1)) (s + 1)).1
    omega
  · split
    · rename_i c
      rw [rn_y h c]
      have := (rn_g (P := isD) (B := B) (n - (s + 1)) (s + 1)).1
      omega
    · omega
theorem nx_b {B : Bt} {n s : Nat} (h : s ≤ n) : tE B n s ≤ nx B n s ∧ nx B n s ≤ n := rn_b (tE_b h).2
theorem nx_lt {B : Bt} {n s : Nat} (h : s < n) : s < nx B n s ∧ nx B n s ≤ n := by
  have := tE_lt (B := B) h
  have := nx_b (B := B) (n := n) (s := s) (by omega)
  omega
theorem tK_0 {B : Bt} {n s : Nat} : tK B n s = 0 ↔ n ≤ s := by
  unfold tK
  constructor
  · intro h
    by_cases c : n ≤ s
    · exact c
    · rw [if_neg c] at h
      split at h
      · omega
      · split at h
        · split at h <;> omega
        · split at h <;> omega
  · intro h; exact if_pos h
theorem tK_w {B : Bt} {n s : Nat} : tK B n s = 1 ↔ s < n ∧ isL (B s) := by
  unfold tK
  constructor
  · intro h
    by_cases c : n ≤ s
    · rw [if_pos c] at h; omega
    · rw [if_neg c] at h
      by_cases l : isL (B s)
      · exact ⟨by omega, l⟩
      · rw [if_neg l] at h
        split at h
        · split at h <;> omega
        · split at h <;> omega
  · rintro ⟨h1, h2⟩
    rw [if_neg (by omega), if_pos h2]
theorem tE_w {B : Bt} {n s : Nat} (h : tK B n s = 1) : tE B n s = rn isL B (n - s) s := by
  obtain ⟨a, b⟩ := tK_w.mp h
  unfold tE
  rw [if_neg (by omega), if_pos b]
theorem tW_all {B : Bt} {n s : Nat} (h : tK B n s = 1) : ∀ p, s ≤ p → p < tE B n s → isL (B p) := by
  rw [tE_w h]
  exact (rn_g (P := isL) (B := B) (n - s) s).2.2.1
theorem tW_n {B : Bt} {n s : Nat} (h : ¬ tK B n s = 1) : tW B n s = -1 := if_neg h
theorem ltr_len {B : Bt} {s : Nat} : ∀ d, (ltr B d s).length = d
  | 0 => rfl
  | d + 1 => by rw [ltr, List.length_cons, ltr_len d]
theorem ltr_rg {B : Bt} {s : Nat} : ∀ d, (∀ p, s ≤ p → p < s + d → isL (B p)) → ∀ c ∈ ltr B d s, 1 ≤ c ∧ c ≤ 26
  | 0, _, c, hc => by cases hc
  | d + 1, h, c, hc => by
    rw [ltr, List.mem_cons] at hc
    rcases hc with rfl | hc
    · have := h (s + d) (by omega) (by omega)
      have h1 := this.1
      have h2 := this.2
      omega
    · exact ltr_rg d (fun p h1 h2 => h p h1 (by omega)) c hc
theorem nm32_0 : ∀ l : List Nat, 0 ≤ nm32 l
  | [] => Int.le_refl 0
  | c :: l => by
    have := nm32_0 l
    rw [nm32]; omega
theorem nm256_0 : ∀ l : List Nat, 0 ≤ nm256 l
  | [] => Int.le_refl 0
  | c :: l => by
    have := nm256_0 l
    rw [nm256]; omega
theorem nm32_inj : ∀ (l l' : List Nat), (∀ c ∈ l, 1 ≤ c ∧ c ≤ 26) → (∀ c ∈ l', 1 ≤ c ∧ c ≤ 26) → nm32 l = nm32 l' → l = l'
  | [], [], _, _, _ => rfl
  | [], c :: l, _, h, e => by
    have := h c (List.mem_cons_self)
    have := nm32_0 l
    rw [nm32, nm32] at e; omega
  | c :: l, [], h, _, e => by
    have := h c (List.mem_cons_self)
    have := nm32_0 l
    rw [nm32, nm32] at e; omega
  | c :: l, c' :: l', h, h', e => by
    have h1 := h c (List.mem_cons_self)
    have h2 := h' c' (List.mem_cons_self)
    rw [nm32, nm32] at e
    have e1 : c = c' := by omega
    have e2 : nm32 l = nm32 l' := by omega
    rw [e1, nm32_inj l l' (fun c hc => h c (List.mem_cons_of_mem _ hc)) (fun c hc => h' c (List.mem_cons_of_mem _ hc)) e2]
theorem nm256_inj : ∀ (l l' : List Nat), (∀ c ∈ l, 1 ≤ c ∧ c ≤ 26) → (∀ c ∈ l', 1 ≤ c ∧ c ≤ 26) → nm256 l = nm256 l' → l = l'
  | [], [], _, _, _ => rfl
  | [], c :: l, _, h, e => by
    have := nm256_0 l
    rw [nm256, nm256] at e; omega
  | c :: l, [], h, _, e => by
    have := nm256_0 l
    rw [nm256, nm256] at e; omega
  | c :: l, c' :: l', h, h', e => by
    have h1 := h c (List.mem_cons_self)
    have h2 := h' c' (List.mem_cons_self)
    rw [nm256, nm256] at e
    have e1 : c = c' := by omega
    have e2 : nm256 l = nm256 l' := by omega
    rw [e1, nm256_inj l l' (fun c hc => h c (List.mem_cons_of_mem _ hc)) (fun c hc => h' c (List.mem_cons_of_mem _ hc)) e2]
theorem nm32_lt : ∀ l : List Nat, (∀ c ∈ l, 1 ≤ c ∧ c ≤ 26) → nm32 l < 32 ^ l.length
  | [], _ => by decide
  | c :: l, h => by
    have h1 := h c (List.mem_cons_self)
    have h2 := nm32_lt l (fun c hc => h c (List.mem_cons_of_mem _ hc))
    rw [nm32, List.length_cons, Int.pow_succ]; omega
theorem nm256_lt : ∀ l : List Nat, (∀ c ∈ l, 1 ≤ c ∧ c ≤ 26) → nm256 l < 256 ^ l.length
  | [], _ => by decide
  | c :: l, h => by
    have h1 := h c (List.mem_cons_self)
    have h2 := nm256_lt l (fun c hc => h c (List.mem_cons_of_mem _ hc))
    rw [nm256, List.length_cons, Int.pow_succ]; omega
theorem KL_rg : ∀ i, i < 22 → (∀ c ∈ KL.getD i [], 1 ≤ c ∧ c ≤ 26) ∧ 1 ≤ (KL.getD i []).length ∧ (KL.getD i []).length ≤ 6 := by decide +kernel
theorem KL_kw : ∀ i, i < 22 → nm32 (KL.getD i []) = kwC.getD i 0 := by decide +kernel
theorem KL_inj : ∀ i, i < 22 → ∀ j, j < 22 → KL.getD i [] = KL.getD j [] → i = j := by decide +kernel
theorem fnd_at {p : Nat → Prop} [DecidablePred p] : ∀ (d i : Nat), (fnd p d i = -1 ∧ ∀ j, i ≤ j → j < i + d → ¬ p j) ∨ ∃ j : Nat, fnd p d i = j ∧ i ≤ j ∧ j < i + d ∧ p j ∧ ∀ q, i ≤ q → q < j → ¬ p q
  | 0, i => Or.inl ⟨rfl, fun j h1 h2 => by omega⟩
  | d + 1, i => by
    by_cases c : p i
    · exact Or.inr ⟨i, if_pos c, by omega, by omega, c, fun q h1 h2 => by omega⟩
    · have e : fnd p (d + 1) i = fnd p d (i + 1) := if_neg c
      rw [e]
      rcases fnd_at (p := p) d (i + 1) with ⟨a, b⟩ | ⟨j, a, b1, b2, b3, b4⟩
      · refine Or.inl ⟨a, fun j h1 h2 => ?_⟩
        by_cases z : j = i
        · rw [z]; exact c
        · exact b j (by omega) (by omega)
      · refine Or.inr ⟨j, a, by omega, by omega, b3, fun q h1 h2 => ?_⟩
        by_cases z : q = i
        · rw [z]; exact c
        · exact b4 q (by omega) h2
/-- a search whose property holds of one alone -/
theorem fnd_one {p : Nat → Prop} [DecidablePred p] {d j : Nat} (hj : j < d) (hp : p j) (hu : ∀ q, q < d → p q → q = j) : fnd p d 0 = j := by
  rcases fnd_at (p := p) d 0 with ⟨-, b⟩ | ⟨i, a, -, b2, b3, -⟩
  · exact absurd hp (b j (by omega) (by omega))
  · rw [a, hu i (by omega) b3]
theorem fnd_no {p : Nat → Prop} [DecidablePred p] {d : Nat} (h : ∀ q, q < d → ¬ p q) : fnd p d 0 = -1 := by
  rcases fnd_at (p := p) d 0 with ⟨a, -⟩ | ⟨i, a, -, b2, b3, -⟩
  · exact a
  · exact absurd b3 (h i (by omega))
theorem tW_rg {B : Bt} {n s : Nat} : -1 ≤ tW B n s ∧ tW B n s ≤ 21 := by
  unfold tW
  split
  · rcases fnd_at (p := fun i => KL.getD i [] = tL B n s) 22 0 with ⟨a, -⟩ | ⟨i, a, -, b2, b3, -⟩ <;> rw [a] <;> omega
  · omega
theorem dg_rg {B : Bt} {s : Nat} : ∀ d, d ≤ 4 → (∀ p, s ≤ p → p < s + d → isD (B p)) → 0 ≤ dg B d s ∧ dg B d s < 10 ^ d
  | 0, _, _ => ⟨Int.le_refl 0, by show (0 : Int) < 10 ^ 0; decide⟩
  | d + 1, hd, h => by
    have ih := dg_rg d (by omega) (fun p h1 h2 => h p h1 (by omega))
    have q := h (s + d) (by omega) (by omega)
    rw [dg, Int.pow_succ]
    have q1 := q.1
    have q2 := q.2
    omega
theorem p10 {d : Nat} (h : d ≤ 4) : (10 : Int) ^ d ≤ 10000 := by
  rcases (show d = 0 ∨ d = 1 ∨ d = 2 ∨ d = 3 ∨ d = 4 by omega) with rfl | rfl | rfl | rfl | rfl <;> decide
theorem p32 {d : Nat} (h : d ≤ 8) : (32 : Int) ^ d ≤ 1099511627776 := by
  rcases (show d = 0 ∨ d = 1 ∨ d = 2 ∨ d = 3 ∨ d = 4 ∨ d = 5 ∨ d = 6 ∨ d = 7 ∨ d = 8 by omega) with rfl | rfl | rfl | rfl | rfl | rfl | rfl | rfl | rfl <;> decide
/-- some numbers of one cell have changed, and nothing else -/
def Oth (c : Nat) (L : List Nat) (h g : HP) : Prop := (∀ k, k ≠ c → g k = h k) ∧ ∀ i, i ∉ L → g c i = h c i
theorem Oth_r {c : Nat} {L : List Nat} {h : HP} : Oth c L h h := ⟨fun _ _ => rfl, fun _ _ => rfl⟩
theorem Oth_hs {c i : Nat} {L : List Nat} {h g : HP} {v : Int} (o : Oth c L h g) (hi : i ∈ L) : Oth c L h (hs g c i v) :=
  ⟨fun k hk => by rw [hs_ne hk]; exact o.1 k hk, fun j hj => by rw [hs_o (Or.inr (fun q => hj (by rw [q]; exact hi)))]; exact o.2 j hj⟩
theorem Oth_t {c : Nat} {L L' : List Nat} {h g f : HP} (o : Oth c L h g) (o' : Oth c L' g f) (s : ∀ i, i ∈ L' → i ∈ L) : Oth c L h f :=
  ⟨fun k hk => (o'.1 k hk).trans (o.1 k hk), fun j hj => (o'.2 j (fun q => hj (s j q))).trans (o.2 j hj)⟩
/-- what a reader of texts comes to: a FAULT (its kind, its place), or something -/
abbrev PR (α : Type) : Type := (Int × Nat) ⊕ α
def bd {α β : Type} (x : PR α) (f : α → PR β) : PR β := match x with
  | .inl e => .inl e
  | .inr a => f a
def hd {α : Type} (x : PR α) (F : Int → Nat → Prop) (K : α → Prop) : Prop := match x with
  | .inl (k, p) => F k p
  | .inr a => K a
theorem hd_bd {α β : Type} {x : PR α} {f : α → PR β} {F : Int → Nat → Prop} {K : β → Prop} : hd (bd x f) F K ↔ hd x F (fun a => hd (f a) F K) := by
  rcases x with ⟨k, p⟩ | a <;> exact Iff.rfl
theorem hd_m {α : Type} {x : PR α} {F F' : Int → Nat → Prop} {K K' : α → Prop} (h : hd x F K) (hF : ∀ k p, F k p → F' k p) (hK : ∀ a, K a → K' a) : hd x F' K' := by
  rcases x with ⟨k, p⟩ | a
  · exact hF k p h
  · exact hK a h
theorem hd_and {α : Type} {x : PR α} {F F' : Int → Nat → Prop} {K K' : α → Prop} (h : hd x F K) (h' : hd x F' K') : hd x (fun k p => F k p ∧ F' k p) (fun a => K a ∧ K' a) := by
  rcases x with ⟨k, p⟩ | a
  · exact ⟨h, h'⟩
  · exact ⟨h, h'⟩
def fl {α : Type} (B : Bt) (n s : Nat) (k : Int) : PR α := .inl (if tK B n s = 4 then 1 else k, s)
/-- a NUMBER from lo to hi; a WORD; the SIGN that ends a PART -/
def sNum (B : Bt) (n s : Nat) (lo hi : Int) : PR (Int × Nat) := if tK B n s = 2 then (if lo ≤ tN B n s ∧ tN B n s ≤ hi then .inr (tN B n s, nx B n s) else fl B n s 4) else fl B n s 2
def sWord (B : Bt) (n s : Nat) (w : Int) : PR Nat := if tW B n s = w then .inr (nx B n s) else fl B n s 2
def sEnd (B : Bt) (n s : Nat) : PR Nat := if tK B n s = 3 ∧ B s = 59 then .inr (nx B n s) else fl B n s 2

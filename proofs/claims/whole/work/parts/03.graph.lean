/-! pure rows: reaching, rounds, counts, ranks (no machine, no class) -/
def hg_rc (e : Nat → Nat → Prop) : Nat → Nat → Nat → Prop
  | 0, u, v => u = v
  | n + 1, u, v => ∃ w, e u w ∧ hg_rc e n w v
/-- v is reached from u in any number of steps, none too -/
def hg_R (e : Nat → Nat → Prop) (u v : Nat) : Prop := ∃ n, hg_rc e n u v
/-- u comes back to itself in one step or more -/
def hg_O (e : Nat → Nat → Prop) (u : Nat) : Prop := ∃ w, e u w ∧ hg_R e w u
theorem hg_R_refl (e : Nat → Nat → Prop) (u : Nat) : hg_R e u u := ⟨0, rfl⟩
theorem hg_R_step {e : Nat → Nat → Prop} {u v w : Nat} (h : e u v) (k : hg_R e v w) : hg_R e u w := by
  obtain ⟨n, hn⟩ := k
  exact ⟨n + 1, v, h, hn⟩
theorem hg_R_one {e : Nat → Nat → Prop} {u v : Nat} (h : e u v) : hg_R e u v := hg_R_step h (hg_R_refl e v)
theorem hg_rc_trans {e : Nat → Nat → Prop} {v w : Nat} (k : hg_R e v w) : ∀ (n u : Nat), hg_rc e n u v → hg_R e u w
  | 0, u, hn => by
    have e1 : u = v := hn
    rw [e1]
    exact k
  | n + 1, u, hn => by
    obtain ⟨x, h1, h2⟩ := hn
    exact hg_R_step h1 (hg_rc_trans k n x h2)
theorem hg_R_trans {e : Nat → Nat → Prop} {u v w : Nat} (h : hg_R e u v) (k : hg_R e v w) : hg_R e u w := by
  obtain ⟨n, hn⟩ := h
  exact hg_rc_trans k n u hn
theorem hg_rc_closed {e : Nat → Nat → Prop} {P : Nat → Prop} (hc : ∀ a b, P a → e a b → P b) {v : Nat} : ∀ (n u : Nat), P u → hg_rc e n u v → P v
  | 0, u, h, hn => by
    have e1 : u = v := hn
    rw [← e1]
    exact h
  | n + 1, u, h, hn => by
    obtain ⟨x, h1, h2⟩ := hn
    exact hg_rc_closed hc n x (hc u x h h1) h2
/-- what is closed under the steps holds of all that is reached -/
theorem hg_R_closed {e : Nat → Nat → Prop} {P : Nat → Prop} (hc : ∀ a b, P a → e a b → P b) {u v : Nat} (h : P u) (k : hg_R e u v) : P v := by
  obtain ⟨n, hn⟩ := k
  exact hg_rc_closed hc n u h hn
theorem hg_rc_back {e : Nat → Nat → Prop} {P : Nat → Prop} (hc : ∀ a b, P b → e a b → P a) {v : Nat} (h : P v) : ∀ (n u : Nat), hg_rc e n u v → P u
  | 0, u, hn => by
    have e1 : u = v := hn
    rw [e1]
    exact h
  | n + 1, u, hn => by
    obtain ⟨x, h1, h2⟩ := hn
    exact hc u x (hg_rc_back hc h n x h2) h1
theorem hg_R_back {e : Nat → Nat → Prop} {P : Nat → Prop} (hc : ∀ a b, P b → e a b → P a) {u v : Nat} (h : P v) (k : hg_R e u v) : P u := by
  obtain ⟨n, hn⟩ := k
  exact hg_rc_back hc h n u hn
/-- a round goes along any road between two that reach each other -/
theorem hg_O_pair {e : Nat → Nat → Prop} {u v : Nat} (hne : u ≠ v) (h : hg_R e u v) (k : hg_R e v u) : hg_O e u := by
  obtain ⟨n, hn⟩ := h
  cases n with
  | zero =>
    have e1 : u = v := hn
    exact absurd e1 hne
  | succ n =>
    obtain ⟨x, h1, h2⟩ := hn
    exact ⟨x, h1, hg_R_trans ⟨n, h2⟩ k⟩
theorem hg_R_congr {e e' : Nat → Nat → Prop} (h : ∀ a b, e a b → e' a b) {u v : Nat} (k : hg_R e u v) : hg_R e' u v :=
  hg_R_back (e := e) (P := fun x => hg_R e' x v) (fun a b hb hab => hg_R_step (h a b hab) hb) (hg_R_refl e' v) k
/-! counts -/
noncomputable def hg_b (P : Prop) : Nat := @ite Nat P (Classical.propDecidable P) 1 0
theorem hg_b_t {P : Prop} (h : P) : hg_b P = 1 := by
  unfold hg_b
  exact if_pos h
theorem hg_b_f {P : Prop} (h : ¬ P) : hg_b P = 0 := by
  unfold hg_b
  exact if_neg h
theorem hg_b_le (P : Prop) : hg_b P ≤ 1 := by
  by_cases h : P
  · rw [hg_b_t h]
    exact Nat.le_refl 1
  · rw [hg_b_f h]
    exact Nat.zero_le 1
/-- how many below n have P -/
noncomputable def hg_cn (P : Nat → Prop) : Nat → Nat
  | 0 => 0
  | n + 1 => hg_cn P n + hg_b (P n)
theorem hg_cn_s (P : Nat → Prop) (n : Nat) : hg_cn P (n + 1) = hg_cn P n + hg_b (P n) := rfl
theorem hg_cn_bd (P : Nat → Prop) : ∀ n, hg_cn P n ≤ n
  | 0 => Nat.le_refl 0
  | n + 1 => by
    have h1 := hg_cn_bd P n
    have h2 := hg_b_le (P n)
    rw [hg_cn_s]
    omega
theorem hg_b_mono {P Q : Prop} (h : P → Q) : hg_b P ≤ hg_b Q := by
  by_cases hp : P
  · rw [hg_b_t hp, hg_b_t (h hp)]
    exact Nat.le_refl 1
  · rw [hg_b_f hp]
    exact Nat.zero_le _
theorem hg_b_congr {P Q : Prop} (h : P ↔ Q) : hg_b P = hg_b Q := by
  have h1 := hg_b_mono h.1
  have h2 := hg_b_mono h.2
  omega
theorem hg_cn_le {P Q : Nat → Prop} : ∀ n, (∀ k, k < n → P k → Q k) → hg_cn P n ≤ hg_cn Q n
  | 0, _ => Nat.le_refl 0
  | n + 1, h => by
    have h1 := hg_cn_le n (fun k hk => h k (by omega))
    have h2 := hg_b_mono (h n (by omega))
    rw [hg_cn_s, hg_cn_s]
    omega
theorem hg_cn_congr {P Q : Nat → Prop} (n : Nat) (h : ∀ k, k < n → (P k ↔ Q k)) : hg_cn P n = hg_cn Q n := by
  have h1 := hg_cn_le n (fun k hk => (h k hk).1)
  have h2 := hg_cn_le n (fun k hk => (h k hk).2)
  omega
theorem hg_cn_lt {P Q : Nat → Prop} {x : Nat} (hx : ¬ P x) (hq : Q x) : ∀ n, x < n → (∀ k, k < n → P k → Q k) → hg_cn P n < hg_cn Q n
  | 0, hn, _ => by omega
  | n + 1, hn, h => by
    rw [hg_cn_s, hg_cn_s]
    by_cases e1 : x = n
    · subst e1
      have h1 := hg_cn_le x (fun k hk => h k (by omega))
      rw [hg_b_f hx, hg_b_t hq]
      omega
    · have h1 := hg_cn_lt hx hq n (by omega) (fun k hk => h k (by omega))
      have h2 := hg_b_mono (h n (by omega))
      omega
/-- one that isn't in comes in: one more -/
theorem hg_cn_add {P : Nat → Prop} {x : Nat} (hx : ¬ P x) : ∀ n, hg_cn (fun k => P k ∨ k = x) n = hg_cn P n + hg_b (x < n)
  | 0 => by
    rw [hg_b_f (by omega)]
    rfl
  | n + 1 => by
    have h1 := hg_cn_add hx n
    rw [hg_cn_s, hg_cn_s, h1]
    by_cases e1 : n = x
    · subst e1
      rw [hg_b_t (show P n ∨ n = n from Or.inr rfl), hg_b_f hx, hg_b_f (show ¬ n < n by omega), hg_b_t (show n < n + 1 by omega)]
    · have h2 : hg_b (P n ∨ n = x) = hg_b (P n) := hg_b_congr ⟨fun h => h.elim id (fun q => absurd q e1), Or.inl⟩
      have h3 : hg_b (x < n + 1) = hg_b (x < n) := hg_b_congr ⟨fun h => by omega, fun h => by omega⟩
      rw [h2, h3]
      omega
theorem hg_cn_room {P : Nat → Prop} {x n : Nat} (hx : ¬ P x) (hn : x < n) : hg_cn P n < n := by
  have h1 := hg_cn_lt (Q := fun _ => True) hx trivial n hn (fun _ _ _ => trivial)
  have h2 := hg_cn_bd (fun _ => True) n
  omega
theorem hg_cn_0 : ∀ n, hg_cn (fun _ => False) n = 0
  | 0 => rfl
  | n + 1 => by rw [hg_cn_s, hg_cn_0 n, hg_b_f (fun h => h)]
/-! ranks -/
/-- the greatest K of those below n that f has a step to -/
noncomputable def hg_mx (e : Nat → Nat → Prop) (K : Nat → Nat) (f : Nat) : Nat → Nat
  | 0 => 0
  | n + 1 => Nat.max (hg_mx e K f n) (hg_b (e f n) * K n)
theorem hg_mx_s (e : Nat → Nat → Prop) (K : Nat → Nat) (f n : Nat) : hg_mx e K f (n + 1) = Nat.max (hg_mx e K f n) (hg_b (e f n) * K n) := rfl
theorem hg_bK_t {P : Prop} (h : P) (k : Nat) : hg_b P * k = k := by rw [hg_b_t h, Nat.one_mul]
theorem hg_bK_f {P : Prop} (h : ¬ P) (k : Nat) : hg_b P * k = 0 := by rw [hg_b_f h, Nat.zero_mul]
theorem hg_mx_le {e : Nat → Nat → Prop} {K L : Nat → Nat} {f : Nat} : ∀ n, (∀ g, g < n → e f g → K g ≤ L g) → hg_mx e K f n ≤ hg_mx e L f n
  | 0, _ => Nat.le_refl 0
  | n + 1, h => by
    have h1 := hg_mx_le n (fun g hg => h g (by omega))
    have h2 : hg_b (e f n) * K n ≤ hg_b (e f n) * L n := by
      by_cases hp : e f n
      · rw [hg_bK_t hp, hg_bK_t hp]
        exact h n (by omega) hp
      · rw [hg_bK_f hp, hg_bK_f hp]
        exact Nat.le_refl 0
    rw [hg_mx_s, hg_mx_s]
    exact Nat.max_le.mpr ⟨Nat.le_trans h1 (Nat.le_max_left ..), Nat.le_trans h2 (Nat.le_max_right ..)⟩
theorem hg_mx_congr {e : Nat → Nat → Prop} {K L : Nat → Nat} {f : Nat} (n : Nat) (h : ∀ g, g < n → e f g → K g = L g) : hg_mx e K f n = hg_mx e L f n :=
  Nat.le_antisymm (hg_mx_le n (fun g hg he => Nat.le_of_eq (h g hg he))) (hg_mx_le n (fun g hg he => Nat.le_of_eq (h g hg he).symm))
/-- how many are reached from f in one step or more -/
noncomputable def hg_mu (e : Nat → Nat → Prop) (N f : Nat) : Nat := hg_cn (fun g => ∃ w, e f w ∧ hg_R e w g) N
theorem hg_mu_lt {e : Nat → Nat → Prop} {N f g : Nat} (h : e f g) (hg : g < N) (ho : ¬ hg_O e g) : hg_mu e N g < hg_mu e N f :=
  hg_cn_lt (P := fun k => ∃ w, e g w ∧ hg_R e w k) (Q := fun k => ∃ w, e f w ∧ hg_R e w k) (x := g) (fun q => ho q) ⟨g, h, hg_R_refl e g⟩ N hg (fun k _ q => by
    obtain ⟨w, h1, h2⟩ := q
    exact ⟨g, h, hg_R_step h1 h2⟩)
noncomputable def hg_kf (e : Nat → Nat → Prop) (N : Nat) : Nat → Nat → Nat
  | 0, _ => 0
  | t + 1, f => hg_b (¬ hg_O e f) * (1 + hg_mx e (hg_kf e N t) f N)
theorem hg_kf_s (e : Nat → Nat → Prop) (N t f : Nat) : hg_kf e N (t + 1) f = hg_b (¬ hg_O e f) * (1 + hg_mx e (hg_kf e N t) f N) := rfl
theorem hg_kf_O {e : Nat → Nat → Prop} {N f : Nat} (h : hg_O e f) : ∀ t, hg_kf e N t f = 0
  | 0 => rfl
  | t + 1 => by rw [hg_kf_s, hg_bK_f (fun q => q h)]
theorem hg_kf_st {e : Nat → Nat → Prop} {N : Nat} : ∀ (t t' f : Nat), hg_mu e N f < t → hg_mu e N f < t' → hg_kf e N t f = hg_kf e N t' f
  | 0, t', f, h, _ => by omega
  | t + 1, 0, f, _, h => by omega
  | t + 1, t' + 1, f, h, h' => by
    by_cases ho : hg_O e f
    · rw [hg_kf_O ho, hg_kf_O ho]
    · rw [hg_kf_s, hg_kf_s, hg_mx_congr N (fun g hg he => ?_)]
      by_cases hog : hg_O e g
      · rw [hg_kf_O hog, hg_kf_O hog]
      · have h1 := hg_mu_lt he hg hog
        exact hg_kf_st t t' g (by omega) (by omega)
/-- the rank: 0 on a round, else one more than the greatest of those that f has a step to -/
noncomputable def hg_K (e : Nat → Nat → Prop) (N f : Nat) : Nat := hg_kf e N (N + 1) f
theorem hg_K_eq (e : Nat → Nat → Prop) (N f : Nat) : hg_K e N f = hg_b (¬ hg_O e f) * (1 + hg_mx e (hg_K e N) f N) := by
  show hg_kf e N (N + 1) f = _
  by_cases ho : hg_O e f
  · rw [hg_kf_O ho, hg_bK_f (fun q => q ho)]
  · rw [hg_kf_s, hg_mx_congr (L := hg_K e N) N (fun g hg he => ?_)]
    show hg_kf e N N g = hg_kf e N (N + 1) g
    by_cases hog : hg_O e g
    · rw [hg_kf_O hog, hg_kf_O hog]
    · have h1 := hg_mu_lt he hg hog
      have h2 : hg_mu e N f ≤ N := hg_cn_bd _ N
      exact hg_kf_st N (N + 1) g (by omega) (by omega)
theorem hg_K_O {e : Nat → Nat → Prop} {N f : Nat} (h : hg_O e f) : hg_K e N f = 0 := hg_kf_O h (N + 1)
theorem hg_K_n {e : Nat → Nat → Prop} {N f : Nat} (h : ¬ hg_O e f) : hg_K e N f = 1 + hg_mx e (hg_K e N) f N := by rw [hg_K_eq, hg_bK_t h]
/-- who keeps the rule is the rank -/
theorem hg_K_one {e : Nat → Nat → Prop} {N : Nat} {L : Nat → Nat} (h0 : ∀ f, f < N → hg_O e f → L f = 0) (h1 : ∀ f, f < N → ¬ hg_O e f → L f = 1 + hg_mx e L f N) : ∀ (t f : Nat), hg_mu e N f < t → f < N → L f = hg_K e N f
  | 0, f, h, _ => by omega
  | t + 1, f, h, hf => by
    by_cases ho : hg_O e f
    · rw [h0 f hf ho, hg_K_O ho]
    · rw [h1 f hf ho, hg_K_n ho, hg_mx_congr N (fun g hg he => ?_)]
      by_cases hog : hg_O e g
      · rw [h0 g hg hog, hg_K_O hog]
      · have h2 := hg_mu_lt he hg hog
        exact hg_K_one h0 h1 t g (by omega) hg
theorem hg_K_uniq {e : Nat → Nat → Prop} {N : Nat} {L : Nat → Nat} (h0 : ∀ f, f < N → hg_O e f → L f = 0) (h1 : ∀ f, f < N → ¬ hg_O e f → L f = 1 + hg_mx e L f N) {f : Nat} (hf : f < N) : L f = hg_K e N f := hg_K_one h0 h1 (hg_mu e N f + 1) f (by omega) hf
/-! what is hit -/
/-- a set that holds the first ones, is closed backwards, and holds none without a road to a first one -/
theorem hg_hit_uniq {e : Nat → Nat → Prop} {h0 S : Nat → Prop} (ha : ∀ f, h0 f → S f) (hb : ∀ f g, e f g → S g → S f) (hc : ∀ f, S f → ∃ g, hg_R e f g ∧ h0 g) (f : Nat) : S f ↔ ∃ g, hg_R e f g ∧ h0 g :=
  ⟨hc f, fun q => by
    obtain ⟨g, h1, h2⟩ := q
    exact hg_R_back (P := S) (fun a b hs he => hb a b he hs) (ha g h2) h1⟩
/-! the sum of what is wanting, for loops that go on while something changes -/
def hg_sm (d : Nat → Nat) : Nat → Nat
  | 0 => 0
  | n + 1 => hg_sm d n + d n
theorem hg_sm_s (d : Nat → Nat) (n : Nat) : hg_sm d (n + 1) = hg_sm d n + d n := rfl
theorem hg_sm_le {d d' : Nat → Nat} : ∀ n, (∀ k, k < n → d k ≤ d' k) → hg_sm d n ≤ hg_sm d' n
  | 0, _ => Nat.le_refl 0
  | n + 1, h => by
    have h1 := hg_sm_le n (fun k hk => h k (by omega))
    have h2 := h n (by omega)
    rw [hg_sm_s, hg_sm_s]
    omega
theorem hg_sm_lt {d d' : Nat → Nat} {x : Nat} (hx : d x < d' x) : ∀ n, x < n → (∀ k, k < n → d k ≤ d' k) → hg_sm d n < hg_sm d' n
  | 0, hn, _ => by omega
  | n + 1, hn, h => by
    rw [hg_sm_s, hg_sm_s]
    have h2 := h n (by omega)
    by_cases e1 : x = n
    · subst e1
      have h1 := hg_sm_le x (fun k hk => h k (by omega))
      omega
    · have h1 := hg_sm_lt hx n (by omega) (fun k hk => h k (by omega))
      omega

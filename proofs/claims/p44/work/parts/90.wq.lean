/-! RESULTS WITH THEIR COSTS; the law's state -/
def wq (r : am_T) (K : Nat) (Q : Option Value → am_M → Prop) : Prop := ∃ v M' k s, r = some (.inl v, M', k, s) ∧ k ≤ K ∧ s ≤ 60 * K ∧ Q v M'
theorem wq_w {r : am_T} {K K' : Nat} {Q Q' : Option Value → am_M → Prop} (h : wq r K Q) (hK : K ≤ K') (hQ : ∀ v M, Q v M → Q' v M) : wq r K' Q' := by
  obtain ⟨v, M', k, s, h1, h2, h3, h4⟩ := h
  exact ⟨v, M', k, s, h1, by omega, by omega, hQ v M' h4⟩
theorem wq_k {r : am_T} {K K' : Nat} {Q : Option Value → am_M → Prop} (h : wq r K Q) (hK : K ≤ K') : wq r K' Q := wq_w h hK fun _ _ q => q
theorem wq_e {v : Option Value} {M : am_M} {K : Nat} {Q : Option Value → am_M → Prop} (h : Q v M) : wq (some (.inl v, M, 0, 0)) K Q := ⟨v, M, 0, 0, rfl, Nat.zero_le _, Nat.zero_le _, h⟩
theorem wq_add {r : am_T} {k s K K' : Nat} {Q : Option Value → am_M → Prop} (h : wq r K Q) (hk : k + K ≤ K') (hs : s ≤ 60 * k) : wq (am_add r k s) K' Q := by
  obtain ⟨v, M', k1, s1, h1, h2, h3, h4⟩ := h
  subst h1
  exact ⟨v, M', k + k1, s + s1, rfl, by omega, by omega, h4⟩
theorem wq_add' {r : am_T} {k s k0 K K' : Nat} {Q : Option Value → am_M → Prop} (h : wq r K Q) (hk : k ≤ k0) (hs : s ≤ 60 * k0) (hK : k0 + K ≤ K') : wq (am_add r k s) K' Q := by
  obtain ⟨v, M', k1, s1, h1, h2, h3, h4⟩ := h
  subst h1
  exact ⟨v, M', k + k1, s + s1, rfl, by omega, by omega, h4⟩
theorem wq_c {r : am_T} {c : Option Value → am_M → am_T} {x : Nat → am_M → am_T} {K1 K : Nat} {Q R : Option Value → am_M → Prop} (h : wq r K1 R) (hK : K1 ≤ K) (h2 : ∀ v M, R v M → wq (c v M) (K - K1) Q) : wq (am_bnx r c x) K Q := by
  obtain ⟨v, M', k, s, h1, hk, hs, h4⟩ := h
  subst h1
  show wq (am_add (c v M') k s) K Q
  exact wq_add' (h2 v M' h4) hk hs (by omega)
/-- an int comes back, and Z holds of the memory -/
def qi (Z : am_M → Prop) (a : Int32) (v : Option Value) (M : am_M) : Prop := v = some (.int a) ∧ Z M
def ql (Z : am_M → Prop) (a : Int64) (v : Option Value) (M : am_M) : Prop := v = some (.long a) ∧ Z M
def qr (Z : am_M → Prop) (a : Value) (v : Option Value) (M : am_M) : Prop := v = some a ∧ Z M
theorem wq_i {r : am_T} {c : Option Value → am_M → am_T} {x : Nat → am_M → am_T} {K1 K : Nat} {a : Int32} {Z : am_M → Prop} {Q : Option Value → am_M → Prop} (h : wq r K1 (qi Z a)) (hK : K1 ≤ K) (h2 : ∀ M, Z M → wq (c (some (.int a)) M) (K - K1) Q) : wq (am_bnx r c x) K Q :=
  wq_c h hK fun v M q => by rw [q.1]; exact h2 M q.2
theorem wq_l {r : am_T} {c : Option Value → am_M → am_T} {x : Nat → am_M → am_T} {K1 K : Nat} {a : Int64} {Z : am_M → Prop} {Q : Option Value → am_M → Prop} (h : wq r K1 (ql Z a)) (hK : K1 ≤ K) (h2 : ∀ M, Z M → wq (c (some (.long a)) M) (K - K1) Q) : wq (am_bnx r c x) K Q :=
  wq_c h hK fun v M q => by rw [q.1]; exact h2 M q.2
theorem wq_v {r : am_T} {c : Option Value → am_M → am_T} {x : Nat → am_M → am_T} {K1 K : Nat} {a : Value} {Z : am_M → Prop} {Q : Option Value → am_M → Prop} (h : wq r K1 (qr Z a)) (hK : K1 ≤ K) (h2 : ∀ M, Z M → wq (c (some a) M) (K - K1) Q) : wq (am_bnx r c x) K Q :=
  wq_c h hK fun v M q => by rw [q.1]; exact h2 M q.2
/-- the law's number for an exception -/
def ax (e : Nat) : Int32 := match e with
  | 0 => -76
  | 1 => -77
  | 2 => -78
  | 3 => -75
  | 4 => -79
  | _ => -74
def aw (A : av_A) : Int32 := match A with
  | .inl v => v
  | .inr (e, _) => ax e
theorem lq_of {A : av_A} {r : am_T} {c : Option Value → am_M → am_T} {x : Nat → am_M → am_T} {M1 : am_M} {Z : am_M → Prop} (hq : av_qc r A M1) (hZ : Z M1) (hv : ∀ v, A = .inl v → c (some (.int v)) M1 = some (.inl (some (.int v)), M1, 0, 0)) (he : ∀ e k, A = .inr (e, k) → x e M1 = some (.inl (some (.int (ax e))), M1, 0, 0)) : wq (am_bnx r c x) 1 (qi Z (aw A)) := by
  cases A with
  | inl v =>
    have hq : r = some (.inl (some (.int v)), M1, 0, 0) := hq
    rw [hq, am_bnx_v, hv v rfl]
    exact ⟨_, _, _, _, rfl, by decide, by decide, rfl, hZ⟩
  | inr ek =>
    obtain ⟨e, k⟩ := ek
    have hq : r = some (.inr e, M1, 1, 6) := hq
    rw [hq, am_bnx_e, he e k rfl]
    exact ⟨_, _, _, _, rfl, by decide, by decide, rfl, hZ⟩
/-- the law's own cells: the script, room for new cells, the sums -/
def pL (Lx : Nat) (xs : Nat → Int32) (S : Nat → Int64) (M : am_M) : Prop := M.2.2.2.2.2 = (Lx, xs) ∧ 275 ≤ M.2.2.2.2.1 ∧ (∀ j, M.2.2.1 (am_c 274 27) j = S j) ∧ ∀ c k j, (k = 15 ∨ k = 18) → M.2.2.2.2.1 ≤ c → M.1 (am_c c k) j = 0
def pZ (Lx : Nat) (xs : Nat → Int32) (S : Nat → Int64) (bd : Nat) (σ : Nat → Int32) (L : List (Nat → Int32)) (H : List av_K) (P : Option av_K) (M : am_M) : Prop := pL Lx xs S M ∧ av_okS bd σ L H P ∧ ∃ q T f l, av_x M σ L H P q 0 T f l
theorem pL_fx {Lx : Nat} {xs : Nat → Int32} {S : Nat → Int64} {M X : am_M} (h : pL Lx xs S M) (f : av_fx M X) : pL Lx xs S X := by
  unfold pL
  rw [f.1]
  obtain ⟨h1, h2, h3, h4⟩ := h
  refine ⟨h1, h2, h3, fun c k j hk hc => ?_⟩
  exact (f.2 c k j (by omega) (by omega)).1.trans (h4 c k j hk hc)


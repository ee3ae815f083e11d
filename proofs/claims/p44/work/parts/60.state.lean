/-! the state of both sides -/
def av_ag (M X : am_M) (lo hi : Nat) : Prop := ∀ c k j, k < 64 → lo ≤ c → c < hi → X.1 (am_c c k) j = M.1 (am_c c k) j ∧ X.2.1 (am_c c k) j = M.2.1 (am_c c k) j
theorem av_ag_s {M X : am_M} {lo hi lo' hi' : Nat} (h : av_ag M X lo hi) (h1 : lo ≤ lo') (h2 : hi' ≤ hi) : av_ag M X lo' hi' := fun c k j hk a b => h c k j hk (by omega) (by omega)
theorem av_ag_0 {M : am_M} {lo hi : Nat} : av_ag M M lo hi := fun _ _ _ _ _ _ => ⟨rfl, rfl⟩
theorem av_ag_t {M X Y : am_M} {lo hi : Nat} (h : av_ag M X lo hi) (h' : av_ag X Y lo hi) : av_ag M Y lo hi := fun c k j hk a b => ⟨(h' c k j hk a b).1.trans (h c k j hk a b).1, (h' c k j hk a b).2.trans (h c k j hk a b).2⟩
theorem av_fr_ag {M X : am_M} {B lo hi : Nat} (h : av_fr M X B) (hd : hi ≤ B ∨ B + 24 ≤ lo) : av_ag M X lo hi := fun c k j hk a b => h.2 c k j hk (by omega)
theorem av_ag_i {M : am_M} {lo hi c k j : Nat} {x : Int32} (hk : k < 64) (hd : hi ≤ c ∨ c < lo) : av_ag M (av_i M (am_c c k) j x) lo hi := fun c' k' j' hk' a b => ⟨am_up_a (am_c_ne hk' hk (by omega)), rfl⟩
theorem av_ag_r {M : am_M} {lo hi c k j x : Nat} (hk : k < 64) (hd : hi ≤ c ∨ c < lo) : av_ag M (av_r M (am_c c k) j x) lo hi := fun c' k' j' hk' a b => ⟨rfl, am_up_a (am_c_ne hk' hk (by omega))⟩
theorem av_C_g {B : Nat} {rm : Nat → Nat} {σ : Nat → Int32} {L : List (Nat → Int32)} {M X : am_M} (hC : av_C M B rm σ L) (h : av_ag M X B (B + 24)) : av_C X B rm σ L := by
  obtain ⟨⟨⟨w0, w1, w2, w3, w4, w5, w6, w7, w8, w9⟩, hrm, hpr⟩, ⟨n1, n2, n3, n4⟩, hW, hT, hN, hP, hS, hBo⟩ := hC
  have gi : ∀ c k j, k < 64 → B ≤ c → c < B + 24 → X.1 (am_c c k) j = M.1 (am_c c k) j := fun c k j a b d => (h c k j a b d).1
  have gr : ∀ c k j, k < 64 → B ≤ c → c < B + 24 → X.2.1 (am_c c k) j = M.2.1 (am_c c k) j := fun c k j a b d => (h c k j a b d).2
  refine ⟨⟨⟨?_, ?_, ?_, ?_, ?_, ?_, ?_, ?_, ?_, fun p hp => ?_⟩, fun k hk => ?_, hpr⟩, ⟨n1, n2, n3, ?_⟩, fun p hp => ?_, fun t ht => ?_, ?_, fun p hp w hw => ?_, fun k hk => ?_, fun a a1 a2 => ?_⟩
  · exact (gr _ _ _ (by decide) (by omega) (by omega)).trans w0
  · exact (gr _ _ _ (by decide) (by omega) (by omega)).trans w1
  · exact (gr _ _ _ (by decide) (by omega) (by omega)).trans w2
  · exact (gr _ _ _ (by decide) (by omega) (by omega)).trans w3
  · exact (gr _ _ _ (by decide) (by omega) (by omega)).trans w4
  · exact (gr _ _ _ (by decide) (by omega) (by omega)).trans w5
  · exact (gr _ _ _ (by decide) (by omega) (by omega)).trans w6
  · exact (gr _ _ _ (by decide) (by omega) (by omega)).trans w7
  · exact (gr _ _ _ (by decide) (by omega) (by omega)).trans w8
  · exact (gr _ _ _ (by decide) (by omega) (by omega)).trans (w9 p hp)
  · exact (gr _ _ _ (by decide) (by omega) (by omega)).trans (hrm k hk)
  · exact (gi _ _ _ (by decide) (by omega) (by omega)).trans n4
  · rw [gi _ _ _ (by decide) (by omega) (by omega), gi _ _ _ (by decide) (by omega) (by omega)]; exact hW p hp
  · rw [gi _ _ _ (by decide) (by omega) (by omega), gi _ _ _ (by decide) (by omega) (by omega), gi _ _ _ (by decide) (by omega) (by omega)]; exact hT t ht
  · have e : ∀ f, X.1 (am_c B 1) f = M.1 (am_c B 1) f := fun f => gi _ _ _ (by decide) (by omega) (by omega)
    obtain ⟨b0, b1, b2, b3, b4, b5, b6, b7⟩ := hN
    exact ⟨(e _).trans b0, (e _).trans b1, (e _).trans b2, (e _).trans b3, (e _).trans b4, (e _).trans b5, (e _).trans b6, (e _).trans b7⟩
  · rw [gi _ _ _ (by decide) (by omega) (by omega)]; exact hP p hp w hw
  · have q := hpr.1 k (by omega)
    have e : ∀ f, X.1 (am_c (rm k) 8) f = M.1 (am_c (rm k) 8) f := fun f => gi _ _ _ (by decide) (by omega) (by omega)
    obtain ⟨b0, b1, b2, b3, b4⟩ := hS k hk
    exact ⟨(e _).trans b0, (e _).trans b1, (e _).trans b2, (e _).trans b3, (e _).trans b4⟩
  · rw [gi _ _ _ (by decide) (by omega) (by omega)]; exact hBo a a1 a2
/-- a canyon: its row and its sounds -/
abbrev av_K : Type := (Nat → Int32) × List (Nat → Int32)
def av_h (H : List av_K) (j : Nat) : av_K := H.getD j (fun _ => 0, [])
/-- the class's cells: 0 the object (hasSnapshot), 1 its canyon, 25 the history, 219 the snapshot, 243 the refusal, 244 the text, 246 the line, 248 the order, 249 the draft, 273 the probe -/
def av_x0 (M : am_M) (b : Bool) : Prop := (M.2.1 (am_c 0 12) 0 = am_c 1 1 + 1 ∧ M.2.1 (am_c 0 12) 1 = am_c 25 3 + 1 ∧ M.2.1 (am_c 0 12) 2 = am_c 219 1 + 1 ∧ M.2.1 (am_c 0 12) 4 = am_c 243 7 + 1 ∧ M.2.1 (am_c 0 12) 5 = am_c 244 10 + 1 ∧ M.2.1 (am_c 0 12) 6 = am_c 246 4 + 1 ∧ M.2.1 (am_c 0 12) 7 = am_c 248 5 + 1 ∧ M.2.1 (am_c 0 12) 8 = am_c 249 1 + 1 ∧ M.2.1 (am_c 0 12) 9 = am_c 273 8 + 1) ∧ M.1 (am_c 0 12) 3 = am_bi b
def av_x1 (M : am_M) (σ : Nat → Int32) (L : List (Nat → Int32)) : Prop := ∃ rm, av_C M 1 rm σ L
def av_x2 (M : am_M) (H : List av_K) : Prop := av_hsh M.2.1 25 ∧ H.length ≤ 8 ∧ ∃ (ν : Nat) (g : Nat → av_K), ν < 8 ∧ M.1 (am_c 25 3) 1 = nI ν ∧ M.1 (am_c 25 3) 2 = nI H.length ∧ (∀ i, i < 8 → ∃ rm, av_C M (25 + 2 + 24 * i) rm (g i).1 (g i).2) ∧ ∀ j, j < H.length → g ((ν + 8 - H.length + j) % 8) = av_h H j
def av_x3 (M : am_M) (P : Option av_K) : Prop := ∃ rm τ K, av_C M 219 rm τ K ∧ ∀ p, P = some p → p = (τ, K)
def av_x4 (M : am_M) (q : Int32 × Int32 × Int32) : Prop := M.1 (am_c 243 7) 0 = q.1 ∧ M.1 (am_c 243 7) 1 = q.2.1 ∧ M.1 (am_c 243 7) 2 = q.2.2
def av_x5 (M : am_M) (n : Nat) (T : Nat → Int32) (f : Int32) : Prop := M.2.1 (am_c 244 10) 0 = am_c 245 22 + 1 ∧ n ≤ 60 ∧ M.1 (am_c 244 10) 1 = nI n ∧ M.1 (am_c 244 10) 4 = f ∧ ∀ j, j < n → M.1 (am_c 245 22) j = T j
def av_x6 (M : am_M) (l : List Int32) : Prop := M.2.1 (am_c 246 4) 0 = am_c 247 23 + 1 ∧ l.length ≤ 32 ∧ M.1 (am_c 246 4) 1 = nI l.length ∧ (∀ j, j < l.length → M.1 (am_c 247 23) j = l.getD j 0) ∧ ∀ j, j < l.length → ((l.getD j 0).toUInt32 % 65536).toInt32 = l.getD j 0
def av_x8 (M : am_M) : Prop := ∃ rm τ K, av_C M 249 rm τ K
def av_xp (M : am_M) : Prop := M.1 (am_c 273 8) 1 = 0 ∨ M.1 (am_c 273 8) 1 = 1
theorem av_x0_g {M X : am_M} {b : Bool} (hx : av_x0 M b) (h : av_ag M X 0 1) : av_x0 X b := by
  obtain ⟨⟨a0, a1, a2, a4, a5, a6, a7, a8, a9⟩, a3⟩ := hx
  have gr : ∀ j, X.2.1 (am_c 0 12) j = M.2.1 (am_c 0 12) j := fun j => (h 0 12 j (by decide) (by decide) (by decide)).2
  exact ⟨⟨(gr _).trans a0, (gr _).trans a1, (gr _).trans a2, (gr _).trans a4, (gr _).trans a5, (gr _).trans a6, (gr _).trans a7, (gr _).trans a8, (gr _).trans a9⟩, (h 0 12 3 (by decide) (by decide) (by decide)).1.trans a3⟩
theorem av_x1_g {M X : am_M} {σ : Nat → Int32} {L : List (Nat → Int32)} (hx : av_x1 M σ L) (h : av_ag M X 1 25) : av_x1 X σ L := by
  obtain ⟨rm, hC⟩ := hx
  exact ⟨rm, av_C_g hC h⟩
theorem av_hsh_g {M X : am_M} (hs : av_hsh M.2.1 25) (h : av_ag M X 25 27) : av_hsh X.2.1 25 :=
  ⟨(h 25 3 0 (by decide) (by decide) (by decide)).2.trans hs.1, fun j hj => (h (25 + 1) 24 j (by decide) (by decide) (by decide)).2.trans (hs.2 j hj)⟩
theorem av_x2_g {M X : am_M} {H : List av_K} (hx : av_x2 M H) (h : av_ag M X 25 219) : av_x2 X H := by
  obtain ⟨hs, hl, ν, g, hν, h1, h2, h3, h4⟩ := hx
  refine ⟨av_hsh_g hs (av_ag_s h (by decide) (by decide)), hl, ν, g, hν, (h 25 3 1 (by decide) (by decide) (by decide)).1.trans h1, (h 25 3 2 (by decide) (by decide) (by decide)).1.trans h2, fun i hi => ?_, h4⟩
  obtain ⟨rm, hC⟩ := h3 i hi
  exact ⟨rm, av_C_g hC (av_ag_s h (by omega) (by omega))⟩
theorem av_x3_g {M X : am_M} {P : Option av_K} (hx : av_x3 M P) (h : av_ag M X 219 243) : av_x3 X P := by
  obtain ⟨rm, τ, K, hC, hp⟩ := hx
  exact ⟨rm, τ, K, av_C_g hC h, hp⟩
theorem av_x4_g {M X : am_M} {q : Int32 × Int32 × Int32} (hx : av_x4 M q) (h : av_ag M X 243 244) : av_x4 X q :=
  have g : ∀ j, X.1 (am_c 243 7) j = M.1 (am_c 243 7) j := fun j => (h 243 7 j (by decide) (by decide) (by decide)).1
  ⟨(g _).trans hx.1, (g _).trans hx.2.1, (g _).trans hx.2.2⟩
theorem av_x5_g {M X : am_M} {n : Nat} {T : Nat → Int32} {f : Int32} (hx : av_x5 M n T f) (h : av_ag M X 244 246) : av_x5 X n T f :=
  ⟨(h 244 10 0 (by decide) (by decide) (by decide)).2.trans hx.1, hx.2.1, (h 244 10 1 (by decide) (by decide) (by decide)).1.trans hx.2.2.1, (h 244 10 4 (by decide) (by decide) (by decide)).1.trans hx.2.2.2.1, fun j hj => (h 245 22 j (by decide) (by decide) (by decide)).1.trans (hx.2.2.2.2 j hj)⟩
theorem av_x6_g {M X : am_M} {l : List Int32} (hx : av_x6 M l) (h : av_ag M X 246 248) : av_x6 X l :=
  ⟨(h 246 4 0 (by decide) (by decide) (by decide)).2.trans hx.1, hx.2.1, (h 246 4 1 (by decide) (by decide) (by decide)).1.trans hx.2.2.1, fun j hj => (h 247 23 j (by decide) (by decide) (by decide)).1.trans (hx.2.2.2.1 j hj), hx.2.2.2.2⟩
theorem av_x8_g {M X : am_M} (hx : av_x8 M) (h : av_ag M X 249 273) : av_x8 X := by
  obtain ⟨rm, τ, K, hC⟩ := hx
  exact ⟨rm, τ, K, av_C_g hC h⟩
theorem av_xp_g {M X : am_M} (hx : av_xp M) (h : av_ag M X 273 274) : av_xp X := by
  unfold av_xp
  rw [(h 273 8 1 (by decide) (by decide) (by decide)).1]
  exact hx
/-- the class's side -/
def av_x (M : am_M) (σ : Nat → Int32) (L : List (Nat → Int32)) (H : List av_K) (P : Option av_K) (q : Int32 × Int32 × Int32) (n : Nat) (T : Nat → Int32) (f : Int32) (l : List Int32) : Prop :=
  av_x0 M P.isSome ∧ av_x1 M σ L ∧ av_x2 M H ∧ av_x3 M P ∧ av_x4 M q ∧ av_x5 M n T f ∧ av_x6 M l ∧ av_x8 M ∧ av_xp M
theorem av_x_g {σ : Nat → Int32} {L : List (Nat → Int32)} {H : List av_K} {P : Option av_K} {q : Int32 × Int32 × Int32} {n : Nat} {T : Nat → Int32} {f : Int32} {l : List Int32} {M X : am_M} (hx : av_x M σ L H P q n T f l) (h : av_ag M X 0 274) : av_x X σ L H P q n T f l := by
  obtain ⟨h0, h1, h2, h3, h4, h5, h6, h8, h9⟩ := hx
  exact ⟨av_x0_g h0 (av_ag_s h (by decide) (by decide)), av_x1_g h1 (av_ag_s h (by decide) (by decide)), av_x2_g h2 (av_ag_s h (by decide) (by decide)), av_x3_g h3 (av_ag_s h (by decide) (by decide)), av_x4_g h4 (av_ag_s h (by decide) (by decide)), av_x5_g h5 (av_ag_s h (by decide) (by decide)), av_x6_g h6 (av_ag_s h (by decide) (by decide)), av_x8_g h8 (av_ag_s h (by decide) (by decide)), av_xp_g h9 (av_ag_s h (by decide) (by decide))⟩
/-- nothing but the class's cells is changed -/
def av_fx (M X : am_M) : Prop := X.2.2 = M.2.2 ∧ ∀ c k j, k < 64 → 274 ≤ c → X.1 (am_c c k) j = M.1 (am_c c k) j ∧ X.2.1 (am_c c k) j = M.2.1 (am_c c k) j
theorem av_fx_0 {M : am_M} : av_fx M M := ⟨rfl, fun _ _ _ _ _ => ⟨rfl, rfl⟩⟩
theorem av_fx_t {M X Y : am_M} (h : av_fx M X) (h' : av_fx X Y) : av_fx M Y := ⟨h'.1.trans h.1, fun c k j hk a => ⟨(h'.2 c k j hk a).1.trans (h.2 c k j hk a).1, (h'.2 c k j hk a).2.trans (h.2 c k j hk a).2⟩⟩
theorem av_fx_i {M : am_M} {c k j : Nat} {x : Int32} (hk : k < 64) (hc : c < 274) : av_fx M (av_i M (am_c c k) j x) := ⟨rfl, fun c' k' j' hk' a => ⟨am_up_a (am_c_ne hk' hk (by omega)), rfl⟩⟩
theorem av_fx_r {M : am_M} {c k j x : Nat} (hk : k < 64) (hc : c < 274) : av_fx M (av_r M (am_c c k) j x) := ⟨rfl, fun c' k' j' hk' a => ⟨rfl, am_up_a (am_c_ne hk' hk (by omega))⟩⟩
theorem av_fx_f {M X : am_M} {B : Nat} (h : av_fr M X B) (hB : B + 24 ≤ 274) : av_fx M X := ⟨h.1, fun c k j hk a => h.2 c k j hk (by omega)⟩
/-- nothing but the second implementation's cells is changed -/
def av_fy (M X : am_M) : Prop := X.2 = M.2 ∧ ∀ c k j, k < 64 → c < 274 → X.1 (am_c c k) j = M.1 (am_c c k) j
theorem av_fy_0 {M : am_M} : av_fy M M := ⟨rfl, fun _ _ _ _ _ => rfl⟩
theorem av_fy_t {M X Y : am_M} (h : av_fy M X) (h' : av_fy X Y) : av_fy M Y := ⟨h'.1.trans h.1, fun c k j hk a => (h'.2 c k j hk a).trans (h.2 c k j hk a)⟩
theorem av_fy_i {M : am_M} {c k j : Nat} {x : Int32} (hk : k < 64) (hc : 274 ≤ c) : av_fy M (av_i M (am_c c k) j x) := ⟨rfl, fun c' k' j' hk' a => am_up_a (am_c_ne hk' hk (by omega))⟩
theorem av_fy_ag {M X : am_M} (h : av_fy M X) : av_ag M X 0 274 := fun c k j hk _ b => ⟨h.2 c k j hk b, by rw [h.1]⟩
def av_y2 (D : Nat) (M : am_M) (H : List av_K) : Prop := H.length ≤ 8 ∧ M.1 (am_c D 13) 5 = nI H.length ∧ ∀ j, j < H.length → av_mr (fun i => M.1 (am_c (D + 4) 19) (120 * j + i)) (av_h H j).1 (av_h H j).2
def av_y3 (D : Nat) (M : am_M) (P : Option av_K) : Prop := M.1 (am_c D 13) 6 = am_bi P.isSome ∧ ∀ p, P = some p → av_mr (M.1 (am_c (D + 3) 18)) p.1 p.2
def av_y4 (D : Nat) (M : am_M) (q : Int32 × Int32 × Int32) : Prop := M.1 (am_c D 13) 13 = q.1 ∧ M.1 (am_c D 13) 14 = q.2.1 ∧ M.1 (am_c D 13) 15 = q.2.2
def av_y5 (D : Nat) (M : am_M) (n : Nat) (T : Nat → Int32) (f : Int32) : Prop := n ≤ 60 ∧ M.1 (am_c D 13) 10 = nI n ∧ M.1 (am_c D 13) 12 = f ∧ ∀ j, j < n → M.1 (am_c (D + 5) 20) j = T j
def av_y6 (D : Nat) (M : am_M) (l : List Int32) : Prop := l.length ≤ 32 ∧ M.1 (am_c D 13) 11 = nI l.length ∧ ∀ j, j < l.length → M.1 (am_c (D + 7) 20) j = l.getD j 0
/-- cells of D, and of its object but some fields -/
theorem av_mr_e {s s' σ : Nat → Int32} {L : List (Nat → Int32)} (h : av_mr s σ L) (hl : L.length ≤ 8) (he : ∀ j, j < 120 → s' j = s j) : av_mr s' σ L :=
  ⟨fun j hj h1 => (he j (by omega)).trans (h.1 j hj h1), (he 1 (by decide)).trans h.2.1, fun k hk w hw => (he _ (by omega)).trans (h.2.2 k hk w hw)⟩
/-- all canyons that are kept are in order -/
def av_okS (bd : Nat) (σ : Nat → Int32) (L : List (Nat → Int32)) (H : List av_K) (P : Option av_K) : Prop := av_ok bd σ L ∧ (∀ j, j < H.length → av_ok bd (av_h H j).1 (av_h H j).2) ∧ ∀ p, P = some p → av_ok bd p.1 p.2
theorem av_ok_m {b b' : Nat} {σ : Nat → Int32} {L : List (Nat → Int32)} (h : av_ok b σ L) (hb : b ≤ b') : av_ok b' σ L := by
  obtain ⟨h1, h2, h3⟩ := h
  refine ⟨h1, fun t ht => ?_, h3⟩
  obtain ⟨x, hx, he⟩ := h2 t ht
  exact ⟨x, by omega, he⟩
theorem av_okS_m {b b' : Nat} {σ : Nat → Int32} {L : List (Nat → Int32)} {H : List av_K} {P : Option av_K} (h : av_okS b σ L H P) (hb : b ≤ b') : av_okS b' σ L H P :=
  ⟨av_ok_m h.1 hb, fun j hj => av_ok_m (h.2.1 j hj) hb, fun p hp => av_ok_m (h.2.2 p hp) hb⟩
/-- one more is kept -/
def av_pu (H : List av_K) (s : av_K) : List av_K := (if H.length = 8 then H.drop 1 else H) ++ [s]
theorem av_pu_l {H : List av_K} {s : av_K} (h : H.length ≤ 8) : (av_pu H s).length = if H.length = 8 then 8 else H.length + 1 := by
  unfold av_pu
  by_cases h8 : H.length = 8
  · rw [if_pos h8, if_pos h8, List.length_append, List.length_drop, h8]; rfl
  · rw [if_neg h8, if_neg h8, List.length_append]; rfl
theorem av_pu_e {H : List av_K} {s : av_K} (h : H.length ≤ 8) : av_h (av_pu H s) ((av_pu H s).length - 1) = s := by
  rw [av_pu_l h]
  unfold av_pu av_h
  by_cases h8 : H.length = 8
  · rw [if_pos h8, if_pos h8, List.getD_eq_getElem?_getD, List.getElem?_append_right (by rw [List.length_drop]; omega), List.length_drop, h8]; rfl
  · rw [if_neg h8, if_neg h8, List.getD_eq_getElem?_getD, List.getElem?_append_right (by omega), show H.length + 1 - 1 - H.length = 0 by omega]; rfl
theorem av_pu_o {H : List av_K} {s : av_K} {j : Nat} (h : H.length ≤ 8) (hj : j < (av_pu H s).length - 1) : av_h (av_pu H s) j = av_h H (if H.length = 8 then j + 1 else j) := by
  rw [av_pu_l h] at hj
  unfold av_pu av_h
  by_cases h8 : H.length = 8
  · rw [if_pos h8] at hj ⊢
    rw [if_pos h8, List.getD_eq_getElem?_getD, List.getD_eq_getElem?_getD, List.getElem?_append_left (by rw [List.length_drop]; omega), List.getElem?_drop, Nat.add_comm]
  · rw [if_neg h8] at hj ⊢
    rw [if_neg h8, List.getD_eq_getElem?_getD, List.getD_eq_getElem?_getD, List.getElem?_append_left (by omega)]
theorem av_okS_pu {b b' : Nat} {σ σ' : Nat → Int32} {L L' : List (Nat → Int32)} {H : List av_K} {P : Option av_K} (h : av_okS b σ L H P) (hH : H.length ≤ 8) (h' : av_ok b' σ' L') (hb : b ≤ b') : av_okS b' σ' L' (av_pu H (σ, L)) P := by
  refine ⟨h', fun j hj => ?_, fun p hp => av_ok_m (h.2.2 p hp) hb⟩
  by_cases he : j = (av_pu H (σ, L)).length - 1
  · rw [he, av_pu_e hH]
    exact av_ok_m h.1 hb
  · rw [av_pu_o hH (by omega)]
    rw [av_pu_l hH] at hj he
    refine av_ok_m (h.2.1 _ ?_) hb
    by_cases h8 : H.length = 8
    · rw [if_pos h8] at hj he ⊢; omega
    · rw [if_neg h8] at hj he ⊢; omega

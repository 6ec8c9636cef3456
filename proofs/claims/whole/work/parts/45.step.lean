/-! one call of the law: class and reference go on alike -/
def zGd (N : Nat → Int32) (F G : Nat → Nat → Int32) (K : Nat → Option Nat) (Z : Nat → Int64) (H : Nat → Int32) (tl : zH) (n : Nat) : Prop := (∃ M A l R, zInv N F G K Z M A l R ∧ zHK M K H) ∧ tl.length ≤ n ∧ ∀ q ∈ tl, 100 ≤ q.1
def zvok (vt : Nat) (k : Int32) (v : Int64) (mv : Option Value) : Prop := match vt with
  | 0 => mv = none
  | 1 => ∃ b : Int32, mv = some (.int b) ∧ (k = 0 → v = b.toInt64)
  | _ => ∃ b : Int64, mv = some (.long b) ∧ (k = 0 → v = b)
def zStp (sL : Nat) (sx : Nat → Int32) (y zm : Nat) (wa ma : List Value) (vt : Nat) (N : Nat → Int32) (F G : Nat → Nat → Int32) (K : Nat → Option Nat) (Z : Nat → Int64) (H : Nat → Int32) (c : Int32) (B : Nat → Int32) (v : Int64) (tl : zH) (n : Nat) : Prop :=
  ∃ (N' : Nat → Int32) (F' G' : Nat → Nat → Int32) (K' : Nat → Option Nat) (Z' : Nat → Int64) (H' B' : Nat → Int32) (k : Int32) (v' : Int64) (tl' : zH) (mv : Option Value),
    zMe sL sx 11 y wa (zL N F G K Z N F G H Z c B v tl) (.returned (some (.int k))) (zL N' F' G' K' Z' N F G H Z c B v' tl') ∧
    zMe sL sx 11 zm ma (zL N' F' G' K' Z' N F G H Z c B v' tl') (.returned mv) (zL N' F' G' K' Z' N' F' G' H' Z' k B' v' tl') ∧
    zGd N' F' G' K' Z' H' tl' (n + 1) ∧ zvok vt k v' mv
section ZSS
variable {sL : Nat} {sx : Nat → Int32} {y z zm : Nat} {ca wa ma : List Value}
variable {N : Nat → Int32} {F G : Nat → Nat → Int32} {K : Nat → Option Nat} {H H' : Nat → Int32} {Z : Nat → Int64} {c : Int32} {B B' : Nat → Int32} {tl : zH} {v : Int64} {n : Nat}
theorem zStp_err {e vt : Nat} {k : Int32} {dv : Option Value} (hC : ∀ T, zMe sL sx 10 z ca (zCs N F G K Z ++ T) (.threw e) (zCs N F G K Z ++ T ++ [(100 + e, [])])) (hW : ∀ T h1, zMe sL sx 10 z ca (zCs N F G K Z ++ T) (.threw e) h1 → zMe sL sx 11 y wa (zCs N F G K Z ++ T) (.returned (some (.int k))) h1) (hD : ∀ hc t, hc.length = 75 → zMe sL sx 11 zm ma (hc ++ (zMd N F G H Z c B ++ t)) (.returned dv) (hc ++ (zMd N F G H Z k B ++ t))) (hv : ∀ v', zvok vt k v' dv) (hg : zGd N F G K Z H tl n) : zStp sL sx y zm wa ma vt N F G K Z H c B v tl n := by
  have e1 : zCs N F G K Z ++ (zMd N F G H Z c B ++ ((1, [.long v]) :: tl)) ++ [(100 + e, [])] = zL N F G K Z N F G H Z c B v (tl ++ [(100 + e, [])]) := by simp [zL]
  have h1 := hW _ _ (hC (zMd N F G H Z c B ++ ((1, [.long v]) :: tl)))
  rw [e1] at h1
  refine ⟨N, F, G, K, Z, H, B, k, v, tl ++ [(100 + e, [])], dv, h1, hD _ _ zCs_len, ⟨hg.1, by have := hg.2.1; simp; omega, fun q hq => ?_⟩, hv v⟩
  simp only [List.mem_append, List.mem_singleton] at hq
  rcases hq with hq | hq
  · exact hg.2.2 q hq
  · subst hq; simp
theorem zStp_q {q : zQ} {vt : Nat} {kf : Nat → Int32} {dv : Option Value} {ex : Nat → Prop} (hC : ∀ T, zMe sL sx 10 z ca (zCs N F G K Z ++ T) (zO q) (zHc (zCs N F G K Z ++ T) T q)) (hex : ∀ e, q = .error e → ex e) (hWe : ∀ e T h1, ex e → zMe sL sx 10 z ca (zCs N F G K Z ++ T) (.threw e) h1 → zMe sL sx 11 y wa (zCs N F G K Z ++ T) (.returned (some (.int (kf e)))) h1)
    (hD : ∀ hc t, hc.length = 75 → zMe sL sx 11 zm ma (hc ++ (zMd N F G H Z c B ++ t)) (zOm dv q) (zHm kf hc t N F G H Z B H' B' q)) (hv : ∀ e v', ex e → zvok vt (kf e) v' dv)
    (hok : ∀ r, q = .ok r → (∃ M A l R, zInv r.2.1 r.2.2.1 r.2.2.2.1 r.2.2.2.2.1 r.2.2.2.2.2 M A l R ∧ zHK M r.2.2.2.2.1 H') ∧ ∃ v', zMe sL sx 11 y wa (zL N F G K Z N F G H Z c B v tl) (.returned (some (.int 0))) (zL r.2.1 r.2.2.1 r.2.2.2.1 r.2.2.2.2.1 r.2.2.2.2.2 N F G H Z c B v' tl) ∧ zvok vt 0 v' r.1) (hg : zGd N F G K Z H tl n) : zStp sL sx y zm wa ma vt N F G K Z H c B v tl n := by
  cases hq : q with
  | error e =>
    subst hq
    exact zStp_err (e := e) (k := kf e) (dv := dv) hC (fun T h1 h => hWe e T h1 (hex e rfl) h) hD (fun v' => hv e v' (hex e rfl)) hg
  | ok r =>
    subst hq
    obtain ⟨h1, v', h2, h3⟩ := hok r rfl
    have h4 := hg.2.1
    exact ⟨r.2.1, r.2.2.1, r.2.2.2.1, r.2.2.2.2.1, r.2.2.2.2.2, H', B', 0, v', tl, r.1, h2, hD _ _ zCs_len, ⟨h1, by omega, hg.2.2⟩, h3⟩
/-- .. for a call without an answer -/
theorem zStp_0 {q : zQ} {kf : Nat → Int32} {ex : Nat → Prop} (hC : ∀ T, zMe sL sx 10 z ca (zCs N F G K Z ++ T) (zO q) (zHc (zCs N F G K Z ++ T) T q)) (hex : ∀ e, q = .error e → ex e) (hWe : ∀ e T h1, ex e → zMe sL sx 10 z ca (zCs N F G K Z ++ T) (.threw e) h1 → zMe sL sx 11 y wa (zCs N F G K Z ++ T) (.returned (some (.int (kf e)))) h1) (hWo : ∀ T h1, zMe sL sx 10 z ca (zCs N F G K Z ++ T) (.returned none) h1 → zMe sL sx 11 y wa (zCs N F G K Z ++ T) (.returned (some (.int 0))) h1)
    (hD : ∀ hc t, hc.length = 75 → zMe sL sx 11 zm ma (hc ++ (zMd N F G H Z c B ++ t)) (zOm none q) (zHm kf hc t N F G H Z B H' B' q))
    (hok : ∀ r, q = .ok r → r.1 = none ∧ ∃ M A l R, zInv r.2.1 r.2.2.1 r.2.2.2.1 r.2.2.2.2.1 r.2.2.2.2.2 M A l R ∧ zHK M r.2.2.2.2.1 H') (hg : zGd N F G K Z H tl n) : zStp sL sx y zm wa ma 0 N F G K Z H c B v tl n := by
  refine zStp_q hC hex hWe hD (fun e v' he => rfl) (fun r hr => ⟨(hok r hr).2, v, ?_, (hok r hr).1⟩) hg
  have h1 := hC (zMd N F G H Z c B ++ ((1, [.long v]) :: tl))
  rw [hr] at h1
  have h2 : zMe sL sx 10 z ca (zCs N F G K Z ++ (zMd N F G H Z c B ++ ((1, [.long v]) :: tl))) (.returned r.1) (zL r.2.1 r.2.2.1 r.2.2.2.1 r.2.2.2.2.1 r.2.2.2.2.2 N F G H Z c B v tl) := h1
  rw [(hok r hr).1] at h2
  exact hWo _ _ h2
/-- .. with an int -/
theorem zStp_1 {q : zQ} {kf : Nat → Int32} {ex : Nat → Prop} (hC : ∀ T, zMe sL sx 10 z ca (zCs N F G K Z ++ T) (zO q) (zHc (zCs N F G K Z ++ T) T q)) (hex : ∀ e, q = .error e → ex e) (hWe : ∀ e T h1, ex e → zMe sL sx 10 z ca (zCs N F G K Z ++ T) (.threw e) h1 → zMe sL sx 11 y wa (zCs N F G K Z ++ T) (.returned (some (.int (kf e)))) h1) (hWo : ∀ (x : Int32) (N' : Nat → Int32) (F' G' : Nat → Nat → Int32) (K' : Nat → Option Nat) (Z' : Nat → Int64), zMe sL sx 10 z ca (zL N F G K Z N F G H Z c B v tl) (.returned (some (.int x))) (zL N' F' G' K' Z' N F G H Z c B v tl) → zMe sL sx 11 y wa (zL N F G K Z N F G H Z c B v tl) (.returned (some (.int 0))) (zL N' F' G' K' Z' N F G H Z c B x.toInt64 tl))
    (hD : ∀ hc t, hc.length = 75 → zMe sL sx 11 zm ma (hc ++ (zMd N F G H Z c B ++ t)) (zOm (some (.int 0)) q) (zHm kf hc t N F G H Z B H' B' q)) (hk : ∀ e, ex e → kf e ≠ 0)
    (hok : ∀ r, q = .ok r → (∃ x, r.1 = some (.int x)) ∧ ∃ M A l R, zInv r.2.1 r.2.2.1 r.2.2.2.1 r.2.2.2.2.1 r.2.2.2.2.2 M A l R ∧ zHK M r.2.2.2.2.1 H') (hg : zGd N F G K Z H tl n) : zStp sL sx y zm wa ma 1 N F G K Z H c B v tl n := by
  refine zStp_q hC hex hWe hD (fun e v' he => ⟨0, rfl, fun q => absurd q (hk e he)⟩) (fun r hr => ⟨(hok r hr).2, ?_⟩) hg
  obtain ⟨x, hx⟩ := (hok r hr).1
  have h1 := hC (zMd N F G H Z c B ++ ((1, [.long v]) :: tl))
  rw [hr] at h1
  have h2 : zMe sL sx 10 z ca (zL N F G K Z N F G H Z c B v tl) (.returned r.1) (zL r.2.1 r.2.2.1 r.2.2.2.1 r.2.2.2.2.1 r.2.2.2.2.2 N F G H Z c B v tl) := h1
  rw [hx] at h2
  exact ⟨x.toInt64, hWo _ _ _ _ _ _ h2, x, hx, fun _ => rfl⟩
/-- .. with a long -/
theorem zStp_2 {q : zQ} {kf : Nat → Int32} {ex : Nat → Prop} (hC : ∀ T, zMe sL sx 10 z ca (zCs N F G K Z ++ T) (zO q) (zHc (zCs N F G K Z ++ T) T q)) (hex : ∀ e, q = .error e → ex e) (hWe : ∀ e T h1, ex e → zMe sL sx 10 z ca (zCs N F G K Z ++ T) (.threw e) h1 → zMe sL sx 11 y wa (zCs N F G K Z ++ T) (.returned (some (.int (kf e)))) h1) (hWo : ∀ (x : Int64) (N' : Nat → Int32) (F' G' : Nat → Nat → Int32) (K' : Nat → Option Nat) (Z' : Nat → Int64), zMe sL sx 10 z ca (zL N F G K Z N F G H Z c B v tl) (.returned (some (.long x))) (zL N' F' G' K' Z' N F G H Z c B v tl) → zMe sL sx 11 y wa (zL N F G K Z N F G H Z c B v tl) (.returned (some (.int 0))) (zL N' F' G' K' Z' N F G H Z c B x tl))
    (hD : ∀ hc t, hc.length = 75 → zMe sL sx 11 zm ma (hc ++ (zMd N F G H Z c B ++ t)) (zOm (some (.long 0)) q) (zHm kf hc t N F G H Z B H' B' q)) (hk : ∀ e, ex e → kf e ≠ 0)
    (hok : ∀ r, q = .ok r → (∃ x, r.1 = some (.long x)) ∧ ∃ M A l R, zInv r.2.1 r.2.2.1 r.2.2.2.1 r.2.2.2.2.1 r.2.2.2.2.2 M A l R ∧ zHK M r.2.2.2.2.1 H') (hg : zGd N F G K Z H tl n) : zStp sL sx y zm wa ma 2 N F G K Z H c B v tl n := by
  refine zStp_q hC hex hWe hD (fun e v' he => ⟨0, rfl, fun q => absurd q (hk e he)⟩) (fun r hr => ⟨(hok r hr).2, ?_⟩) hg
  obtain ⟨x, hx⟩ := (hok r hr).1
  have h1 := hC (zMd N F G H Z c B ++ ((1, [.long v]) :: tl))
  rw [hr] at h1
  have h2 : zMe sL sx 10 z ca (zL N F G K Z N F G H Z c B v tl) (.returned r.1) (zL r.2.1 r.2.2.1 r.2.2.2.1 r.2.2.2.2.1 r.2.2.2.2.2 N F G H Z c B v tl) := h1
  rw [hx] at h2
  exact ⟨x, hWo _ _ _ _ _ _ h2, x, hx, fun _ => rfl⟩
end ZSS

/-! the constructors: concrete runs, whatever the script -/
/-- methods that don't look at the script, nor call others that do -/
def znos (y : Nat) : Bool := (zTs.getD y []).all fun q => (match q.2.1 with
  | .arraylength => false
  | _ => true) && (match zcalls y q.2.1 with
  | some (z, _, _) => Nat.beq z 0 || Nat.beq z 6
  | none => true)
theorem znos_0 : znos 0 = true := by decide +kernel
theorem znos_6 : znos 6 = true := by decide +kernel
theorem znos_18 : znos 18 = true := by decide +kernel
theorem znos_62 : znos 62 = true := by decide +kernel
theorem znos_at {y pc : Nat} {ins : Instr} {len : Nat} (h : znos y = true) (hat : zat y pc = some (ins, len)) : (ins ≠ .arraylength) ∧ ∀ z s m, zcalls y ins = some (z, s, m) → znos z = true := by
  have h1 := List.all_eq_true.mp h _ (zfind_in hat)
  simp only [Bool.and_eq_true] at h1
  refine ⟨?_, ?_⟩
  · rintro rfl
    exact absurd h1.1 (by decide)
  · intro z s m hc
    have h2 := h1.2
    rw [hc] at h2
    simp only [Bool.or_eq_true] at h2
    rcases h2 with q | q
    · rw [Nat.eq_of_beq_eq_true q]; exact znos_0
    · rw [Nat.eq_of_beq_eq_true q]; exact znos_6
section ZIN
variable {sL : Nat} {sx : Nat → Int32}
theorem zsim_ind {y : Nat} {ins : Instr} {len pc : Nat} {L S : List Value} {h : zH} {r : zC × zH} (hi : ins ≠ .arraylength) (hs : zsim 0 (fun _ => 0) y ins len pc L S h = some r) : zsim sL sx y ins len pc L S h = some r := by
  cases ins with
  | arraylength => exact absurd rfl hi
  | iaload =>
    simp only [zsim] at hs ⊢
    split at hs
    · split at hs
      · cases hs
      · split at hs
        · rename_i q; exact absurd q (Nat.not_lt_zero _)
        · cases hs
    · exact hs
  | _ => exact hs
theorem zexec_ind : ∀ (n d y pc : Nat) (L S : List Value) (h : zH) (r : Outcome × zH), znos y = true → zexec 0 (fun _ => 0) n d y pc L S h = some r → zexec sL sx n d y pc L S h = some r := by
  intro n
  induction n with
  | zero => intro d y pc L S h r hno hs; simp [zexec] at hs
  | succ n ih =>
    intro d y pc L S h r hno hs
    rw [zexec] at hs ⊢
    cases hat : zat y pc with
    | none => simp [hat] at hs
    | some r0 =>
      obtain ⟨ins, len⟩ := r0
      obtain ⟨hn1, hn2⟩ := znos_at hno hat
      simp only [hat] at hs ⊢
      cases he : zends y ins S with
      | some v => simp only [he] at hs ⊢; exact hs
      | none =>
        simp only [he] at hs ⊢
        cases ht : zthr y ins with
        | some ex => simp only [ht] at hs ⊢; exact hs
        | none =>
          simp only [ht] at hs ⊢
          cases hk : zskip d y ins pc L S h with
          | some q => simp only [hk] at hs ⊢; exact ih _ _ _ _ _ _ _ hno hs
          | none =>
            simp only [hk] at hs ⊢
            cases hc : zcalls y ins with
            | some q =>
              obtain ⟨z, stat, mt⟩ := q
              simp only [hc] at hs ⊢
              cases d with
              | zero => simp at hs
              | succ d' =>
                simp only at hs ⊢
                cases hok : zcallok z stat (S.take (znar z)).reverse (S.drop (znar z)) h with
                | false => simp [hok] at hs
                | true =>
                  simp only [hok, cond_true] at hs ⊢
                  cases hx : zexec 0 (fun _ => 0) n d' z 0 (zent (zmax z) (S.take (znar z)).reverse) [] h with
                  | none => simp [hx] at hs
                  | some r1 =>
                    obtain ⟨o1, h1⟩ := r1
                    rw [ih _ _ _ _ _ _ _ (hn2 _ _ _ hc) hx]
                    simp only [hx] at hs
                    cases o1 with
                    | returned v => exact ih _ _ _ _ _ _ _ hno hs
                    | threw ex =>
                      simp only at hs ⊢
                      cases mt with
                      | false => simp at hs
                      | true =>
                        simp only [cond_true] at hs ⊢
                        cases hy : (zhan y).isEmpty with
                        | true => simp only [hy, cond_true] at hs ⊢; exact hs
                        | false =>
                          simp only [hy, cond_false] at hs ⊢
                          cases hca : zcatch y pc ex (zhan y) with
                          | none => simp [hca] at hs
                          | some hp =>
                            simp only [hca] at hs ⊢
                            cases hL : L.all (fun v => !decide (v = .retAddr 2)) with
                            | false => simp [hL] at hs
                            | true => simp only [hL, cond_true] at hs ⊢; exact ih _ _ _ _ _ _ _ hno hs
            | none =>
              simp only [hc] at hs ⊢
              cases hsm : zsim 0 (fun _ => 0) y ins len pc L S h with
              | none => simp [hsm] at hs
              | some q => rw [zsim_ind hn1 hsm]; simp only [hsm] at hs; exact ih _ _ _ _ _ _ _ hno hs
/-- the numbers at the start -/
def bN (j : Nat) : Int32 := if j = 2 then 64 else 0
def bF (a _i : Nat) : Int32 := match a with
  | 0 => 20
  | 1 => 100
  | _ => 0
def bG (_i _j : Nat) : Int32 := 0
def bK (_i : Nat) : Option Nat := none
def bZ (_i : Nat) : Int64 := 0
def b0 (_i : Nat) : Int32 := 0
theorem b_class0 : zexec 0 (fun _ => 0) 3000 11 18 0 (zent (zmax 18) [.ref 0]) [] [(12, zdefs 2)] = some (.returned none, zCs bN bF bG bK bZ) := by decide +kernel
theorem b_model0 : zexec 0 (fun _ => 0) 3000 11 62 0 (zent (zmax 62) [.ref 75]) [] (zCs bN bF bG bK bZ ++ [(13, zdefs 3)]) = some (.returned none, zCs bN bF bG bK bZ ++ zMd bN bF bG b0 bZ 0 b0) := by decide +kernel
theorem b_class : zMe sL sx 11 18 [.ref 0] [(12, zdefs 2)] (.returned none) (zCs bN bF bG bK bZ) := ⟨3000, zexec_ind _ _ _ _ _ _ _ _ znos_18 b_class0⟩
theorem b_model : zMe sL sx 11 62 [.ref 75] (zCs bN bF bG bK bZ ++ [(13, zdefs 3)]) (.returned none) (zCs bN bF bG bK bZ ++ zMd bN bF bG b0 bZ 0 b0) := ⟨3000, zexec_ind _ _ _ _ _ _ _ _ znos_62 b_model0⟩
theorem zR_new {d y pc i ci k len a : Nat} {L S : List Value} {h hF : zH} {o : Outcome} (hz : zat y pc = some (.new i, len)) (hp : zpool y i = some (6, ci, k)) (hc : Nat.blt ci 4 = true) (hl : h.length = a) (kk : zR sL sx d y (pc + len) L (.ref a :: S) (h ++ [(10 + ci, zdefs ci)]) o hF) : zR sL sx d y pc L S h o hF := by
  subst hl
  obtain ⟨n, hn⟩ := kk
  refine ⟨n + 1, ?_⟩
  rw [zexec]
  simp only [hz, zends, zthr, hp, zskip, zcalls, zsim, hc, cond_true]
  exact hn
theorem zR_newl {d y pc len a : Nat} {L S : List Value} {h hF : zH} {o : Outcome} (hz : zat y pc = some (.newarray .long, len)) (hl : h.length = a) (kk : zR sL sx d y (pc + len) L (.ref a :: S) (h ++ [(1, [.long 0])]) o hF) : zR sL sx d y pc L (.int 1 :: S) h o hF := by
  subst hl
  exact zR_1 hz rfl rfl kk
theorem b_inv : zGd bN bF bG bK bZ b0 [] 0 := by
  refine ⟨⟨0, 0, 0, 64, ⟨⟨rfl, by omega⟩, ⟨rfl, rfl, by omega, by omega⟩, ⟨rfl, by omega⟩, fun i hi => absurd hi (by omega), fun i hi => absurd hi (by omega), fun c c' h => ?_, fun p hp => ⟨20, by omega, rfl, ?_⟩, fun a ha => absurd ha (by omega)⟩, fun i hi => absurd hi (by omega)⟩, Nat.le_refl _, fun q hq => ?_⟩
  · cases h
  · exact Nat.zero_le _
  · cases hq
theorem b_start {hF : zH} {o : Outcome} (kk : zR sL sx 12 123 23 [.retAddr 1, .ref 0, .ref 75, .ref 92, .int (nI 0), .retAddr 0, .retAddr 0, .retAddr 0] [] (zL bN bF bG bK bZ bN bF bG b0 bZ 0 b0 0 []) o hF) : zR sL sx 12 123 0 (zent 8 [.retAddr 1]) [] [] o hF := by
  refine zR_new (ci := 2) (a := 0) rfl rfl rfl rfl ?_
  refine zR_s rfl ?_
  refine zR_call rfl rfl rfl rfl rfl b_class ?_
  refine zR_s rfl ?_
  refine zR_new (ci := 3) (a := 75) rfl rfl rfl zCs_len ?_
  refine zR_s rfl ?_
  refine zR_call rfl rfl rfl rfl (zcallok_v (t := 13) (vs := zdefs 3) (by rw [List.getElem?_append_right (by rw [zCs_len]; omega), zCs_len]; rfl) rfl rfl) b_model ?_
  refine zR_s rfl ?_
  refine zR_cst (v := 1) rfl rfl rfl ?_
  refine zR_newl (a := 92) rfl (by rw [List.length_append, zCs_len, zMd_len]) ?_
  refine zR_s rfl ?_
  refine zR_cst (v := 0) rfl rfl rfl ?_
  refine zR_s rfl ?_
  rw [List.append_assoc]
  exact kk
end ZIN

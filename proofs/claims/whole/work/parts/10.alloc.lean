section ZA
variable {sL : Nat} {sx : Nat → Int32} {b n0 : Nat} {ext : Nat → Nat} {D : va_G} {aC : Nat → ClassId} {p : Program} {l : Launch} {e : Env} {R : Room} {s : State} {m : MethodId} {args : Array Value} {below : List Frame} {meth : Method} {c : Code} {y d F1 F2 M1 M2 : Nat} {Q : State → Prop}
variable {len pc pc' : Nat} {L L' S S' : List Value} {h h' : zH}
theorem zdv (n0 : Nat) (t : FieldType) : zw n0 (defaultValue t) = defaultValue t ∧ zok (defaultValue t) = true := by cases t <;> exact ⟨rfl, rfl⟩
theorem zdefs_len (ci : Nat) : (zdefs ci).length = znf ci := by simp [zdefs]
theorem zsl_one (q : Nat × List Value) : zsl [q] = bif Nat.ble 100 q.1 then 6 else q.2.length := by simp [zsl]
theorem zs_new (hCx : zCx sL sx b n0 D aC p R s m args meth c y d) (hM1 : M1 ≤ R.cells) (hM2 : M2 ≤ R.slots) {i : Nat} (hh : zHere y pc len (.new i)) (hs : zsim sL sx y (.new i) len pc L S h = some ((pc', L', S'), h')) (hF1 : h'.length ≤ F1) (hF2 : zsl h' ≤ F2)
    (k : zG n0 ext D aC p l e R s m args below meth c y F1 F2 M1 M2 Q pc' L' S' h') : zG n0 ext D aC p l e R s m args below meth c y F1 F2 M1 M2 Q pc L S h := by
  obtain ⟨⟨hx, hb, hr, hml, hown⟩, hw, -, -, -, -, hK, -⟩ := id hCx
  obtain ⟨hdg, haim, hlen⟩ := hh
  obtain rfl : len = 3 := zlen_of hlen
  intro H locs cells slots ls hR hS hL hc hz
  simp only [zsim] at hs
  split at hs
  · rename_i ci k9 hp
    cases hb9 : Nat.blt ci 4 with
    | false => simp [hb9] at hs
    | true =>
      simp only [hb9, cond_true] at hs
      obtain ⟨rfl, rfl, rfl, rfl⟩ := zsome hs
      have hci : ci < 4 := Nat.le_of_ble_eq_true hb9
      have w1 := zword hw hp (w := .classLink (zcn (zcls y)) i (zcn ci)) (by simp [zws, hb9]) rfl
      have w2 := zword hw hp (w := .instantiable (zcn ci) (znf ci)) (by simp [zws, hb9]) rfl
      have w3 := zword hw hp (w := .initialized (zcn ci)) (by simp [zws, hb9]) rfl
      obtain ⟨hSl, hfc, -⟩ := hK.1 ci hci
      have hz1 : zsl (h ++ [(10 + ci, zdefs ci)]) = zsl h + znf ci := by
        rw [zsl_app, zsl_one]
        have : Nat.ble 100 (10 + ci) = false := by
          cases hq : Nat.ble 100 (10 + ci)
          · rfl
          · have := Nat.le_of_ble_eq_true hq; omega
        rw [this, cond_false, zdefs_len]
      have hl1 : (h ++ [(10 + ci, zdefs ci)]).length = h.length + 1 := by simp
      rw [hz1] at hF2
      rw [hl1] at hF1
      refine W.newcK hx hb hown w1 w2 w3 rfl hdg (by omega) (by omega) hfc rfl (fun H' kC hkC e1 e2 e3 => ?_)
      have k9 := k H' locs (cells + 1) (slots + znf ci) ls (zRep_push hR e2 e3 e1 ?_) ⟨by have := hS.1; omega, fun q h1 h2 => by rw [e3 q (Nat.lt_of_lt_of_le h1 hS.1)]; exact hS.2.1 q h1 h2, hS.2.2⟩ hL (by rw [hl1]; omega) (by rw [hz1]; omega)
      · rw [hR.1]; exact k9
      · refine ⟨rfl, fun v hv => ?_, fun q => absurd q (by simp only; omega), fun cj hcj hq => ?_⟩
        · obtain ⟨j, -, rfl⟩ := List.mem_map.mp hv
          exact (zdv n0 _).2
        · have hcc : cj = ci := by simp only at hq; omega
          subst hcc
          refine ⟨rfl, fun j hj => ⟨defaultValue (zty cj j), by simp [zdefs, hj], ?_⟩⟩
          obtain ⟨cf, kf, fi, fd, hi, he⟩ := hSl j hj
          have h3 := (u_facts hfc hkC (u_lays (zgood hw) (zlay_ok cj hcj) hj) hi).2.2
          rw [(State.fieldFound?_type hi (zty_ok cj hcj j hj)).2] at h3
          rw [← he, (zdv n0 _).1]
          exact k2_blank h3
  · simp at hs
theorem zs_newarray (hCx : zCx sL sx b n0 D aC p R s m args meth c y d) (hM1 : M1 ≤ R.cells) (hM2 : M2 ≤ R.slots) {t : ArrayType} (hh : zHere y pc len (.newarray t)) (hs : zsim sL sx y (.newarray t) len pc L S h = some ((pc', L', S'), h')) (hF1 : h'.length ≤ F1) (hF2 : zsl h' ≤ F2)
    (k : zG n0 ext D aC p l e R s m args below meth c y F1 F2 M1 M2 Q pc' L' S' h') : zG n0 ext D aC p l e R s m args below meth c y F1 F2 M1 M2 Q pc L S h := by
  obtain ⟨⟨hx, hb, hr, hml, hown⟩, hw, -, -, -, -, hK, -⟩ := id hCx
  obtain ⟨hdg, haim, hlen⟩ := hh
  obtain rfl : len = 2 := zlen_of hlen
  intro H locs cells slots ls hR hS hL hc hz
  simp only [zsim] at hs
  have hkd : ∀ tg, zkind t = some tg → tg < 4 ∧ zaty tg = newarray.typeOf t ∧ Cond.arrayClass (newarray.typeOf t) ∈ lw_tbl ∧ componentBytes (newarray.typeOf t) ≤ 8 := by
    intro tg htg
    cases t <;> simp only [zkind, Option.some.injEq, reduceCtorEq] at htg <;> subst htg
    · exact ⟨by omega, rfl, zar_ok.2, by decide⟩
    · exact ⟨by omega, rfl, zar_ok.1.1, by decide⟩
    · exact ⟨by omega, rfl, zar_ok.1.2, by decide⟩
  cases hkk : zkind t with
  | none => simp [hkk] at hs
  | some tg =>
    obtain ⟨ht4, hty, hword, hcb⟩ := hkd tg hkk
    simp only [hkk] at hs
    split at hs
    · rename_i n r
      by_cases hn : n < 0
      · simp [hn] at hs
      · rw [if_neg hn] at hs
        by_cases hn2 : n.toNatClampNeg ≤ 1000
        · rw [if_pos hn2] at hs
          obtain ⟨rfl, rfl, rfl, rfl⟩ := zsome hs
          have hz1 : zsl (h ++ [(tg, List.replicate n.toNatClampNeg (defaultValue (newarray.typeOf t)))]) = zsl h + n.toNatClampNeg := by
            rw [zsl_app, zsl_one]
            have : Nat.ble 100 tg = false := by
              cases hq : Nat.ble 100 tg
              · rfl
              · have := Nat.le_of_ble_eq_true hq; omega
            rw [this, cond_false, List.length_replicate]
          have hl1 : (h ++ [(tg, List.replicate n.toNatClampNeg (defaultValue (newarray.typeOf t)))]).length = h.length + 1 := by simp
          rw [hz1] at hF2
          rw [hl1] at hF1
          have hbytes : n.toNatClampNeg * componentBytes (newarray.typeOf t) ≤ 536870912 := Nat.le_trans (Nat.mul_le_mul hn2 hcb) (by decide)
          refine va_newaK hx hb (hw _ hword rfl) rfl hdg rfl hn rfl hbytes (by omega) (by omega) rfl (fun H' cA e1 e2 e3 hAr hfc => ?_)
          have hcA : cA = aC tg := by
            have := (hK.2.1 tg ht4).1
            rw [hty] at this
            exact Option.some.inj (hfc.symm.trans this)
          have k9 := k H' locs (cells + 1) (slots + n.toNatClampNeg) ls (zRep_push hR e2 e3 e1 ?_) ⟨by have := hS.1; omega, fun q h1 h2 => by rw [e3 q (Nat.lt_of_lt_of_le h1 hS.1)]; exact hS.2.1 q h1 h2, hS.2.2⟩ hL (by rw [hl1]; omega) (by rw [hz1]; omega)
          · rw [hR.1]; exact k9
          · rw [← arrV_new, hcA]
            refine ⟨rfl, fun v hv => ?_, fun _ => ⟨rfl, ?_⟩, fun cj hcj hq => absurd hq (by simp only; omega)⟩
            · rw [List.eq_of_mem_replicate hv]; exact (zdv n0 _).2
            · simp [(zdv n0 (newarray.typeOf t)).1]
        · rw [if_neg hn2] at hs; simp at hs
    · simp at hs
theorem zs_anewarray (hCx : zCx sL sx b n0 D aC p R s m args meth c y d) (hM1 : M1 ≤ R.cells) (hM2 : M2 ≤ R.slots) {i : Nat} (hh : zHere y pc len (.anewarray i)) (hs : zsim sL sx y (.anewarray i) len pc L S h = some ((pc', L', S'), h')) (hF1 : h'.length ≤ F1) (hF2 : zsl h' ≤ F2)
    (k : zG n0 ext D aC p l e R s m args below meth c y F1 F2 M1 M2 Q pc' L' S' h') : zG n0 ext D aC p l e R s m args below meth c y F1 F2 M1 M2 Q pc L S h := by
  obtain ⟨⟨hx, hb, hr, hml, hown⟩, hw, -, -, -, -, hK, -⟩ := id hCx
  obtain ⟨hdg, haim, hlen⟩ := hh
  obtain rfl : len = 3 := zlen_of hlen
  intro H locs cells slots ls hR hS hL hc hz
  simp only [zsim] at hs
  split at hs
  · rename_i k9 hp
    have w1 := zword hw hp (w := .classLink (zcn (zcls y)) i (zcn 1)) (by simp [zws, show Nat.blt 1 4 = true from rfl]) rfl
    split at hs
    · rename_i n r
      by_cases hn : n < 0
      · simp [hn] at hs
      · rw [if_neg hn] at hs
        by_cases hn2 : n.toNatClampNeg ≤ 1000
        · rw [if_pos hn2] at hs
          obtain ⟨rfl, rfl, rfl, rfl⟩ := zsome hs
          have hz1 : zsl (h ++ [(3, List.replicate n.toNatClampNeg Value.null)]) = zsl h + n.toNatClampNeg := by
            rw [zsl_app, zsl_one, show Nat.ble 100 3 = false from rfl, cond_false, List.length_replicate]
          have hl1 : (h ++ [(3, List.replicate n.toNatClampNeg Value.null)]).length = h.length + 1 := by simp
          rw [hz1] at hF2
          rw [hl1] at hF1
          refine W.anew hx hb hown w1 (va_AO.use hK.2.2.1) rfl hdg rfl hn (by omega) (by omega) (by omega) (fun cA kA comp f1 f2 f3 f4 => ?_)
          have hcA : cA = aC 3 := Option.some.inj (f1.symm.trans (hK.2.1 3 (by omega)).1)
          have k9 := k (H.push { cls := cA, slots := Array.replicate n.toNatClampNeg .null, vm := .none }) locs (cells + 1) (slots + n.toNatClampNeg) ls
            (zRep_push hR (Array.size_push ..) (fun x hx9 => by rw [Array.getElem?_push, if_neg (Nat.ne_of_lt hx9)]) (Array.getElem?_push_size ..) ?_)
            ⟨by have := hS.1; rw [Array.size_push]; omega, fun q h1 h2 => by rw [Array.getElem?_push, if_neg (Nat.ne_of_lt (Nat.lt_of_lt_of_le h1 hS.1))]; exact hS.2.1 q h1 h2, hS.2.2⟩ hL (by rw [hl1]; omega) (by rw [hz1]; omega)
          · rw [hR.1]; exact k9
          · rw [hcA]
            refine ⟨rfl, fun v hv => ?_, fun _ => ⟨rfl, ?_⟩, fun cj hcj hq => absurd hq (by simp only; omega)⟩
            · rw [List.eq_of_mem_replicate hv]; rfl
            · simp [zw, zv]
        · rw [if_neg hn2] at hs; simp at hs
    · simp at hs
  · simp at hs
theorem zwt_map (S : List Value) : ((S.map (zv n0 ext)).map fun v => v.category).sum = zwt S := by
  simp only [zwt, List.map_map]
  congr 1
  exact List.map_congr_left (fun v _ => zv_cat n0 ext v)
theorem zs_skip (hCx : zCx sL sx b n0 D aC p R s m args meth c y d) (hM1 : M1 ≤ R.cells) (hM2 : M2 ≤ R.slots) {ins : Instr} (hh : zHere y pc len ins) (hs : zskip d y ins pc L S h = some ((pc', L', S'), h')) (hF1 : h'.length ≤ F1) (hF2 : zsl h' ≤ F2)
    (k : zG n0 ext D aC p l e R s m args below meth c y F1 F2 M1 M2 Q pc' L' S' h') : zG n0 ext D aC p l e R s m args below meth c y F1 F2 M1 M2 Q pc L S h := by
  obtain ⟨⟨hx, hb, hr, hml, hown⟩, hw, -, -, -, ⟨hfr, hlo⟩, hK, -⟩ := id hCx
  obtain ⟨hdg, haim, hlen⟩ := hh
  intro H locs cells slots ls hR hS hL hc hz
  cases ins with
  | invokespecial i =>
    obtain rfl : len = 3 := zlen_of hlen
    simp only [zskip] at hs
    split at hs
    · rename_i k9 k8 hp
      split at hs
      · rename_i a r
        cases hb9 : (Nat.ble 1 d && Nat.ble (zwt r) 8) with
        | false => simp [hb9] at hs
        | true =>
          simp only [hb9, cond_true] at hs
          obtain ⟨rfl, rfl, rfl, rfl⟩ := zsome hs
          simp only [Bool.and_eq_true] at hb9
          have g1 := Nat.le_of_ble_eq_true hb9.1
          have g2 := Nat.le_of_ble_eq_true hb9.2
          have w1 := zword hw hp (w := .methodLink (zcn (zcls y)) i objectInit) (by simp [zws]) rfl
          have w2 := zword hw hp (w := .instanceMethod objectInit) (by simp [zws]) rfl
          have w3 := zword hw hp (w := .code objectInit ⟨#[0xb1]⟩ 1 none) (by simp [zws]) rfl
          exact W.objInit hx hb hown w1 w2 w3 rfl (hL.1.trans hml.symm) rfl hdg (by omega) (by rw [zwt_map]; show 2 * 0 + _ + 12 ≤ _; omega) (k H locs cells slots ls hR hS hL hc hz)
      · simp at hs
    · simp at hs
  | invokestatic i =>
    obtain rfl : len = 3 := zlen_of hlen
    simp only [zskip] at hs
    split at hs
    · rename_i k9 k8 hp
      split at hs
      · rename_i b9 a9 r
        cases hb9 : (Nat.ble 1 d && Nat.ble (zwt r) 8) with
        | false => simp [hb9] at hs
        | true =>
          simp only [hb9, cond_true] at hs
          obtain ⟨rfl, rfl, rfl, rfl⟩ := zsome hs
          simp only [Bool.and_eq_true] at hb9
          have g1 := Nat.le_of_ble_eq_true hb9.1
          have g2 := Nat.le_of_ble_eq_true hb9.2
          have w1 := zword hw hp (w := .methodLink (zcn (zcls y)) i Lib.Math.max.name) (by simp [zws]) rfl
          have w2 := zword hw hp (w := .static Lib.Math.max.name) (by simp [zws]) rfl
          have w3 := zword hw hp (w := .initialized "java/lang/Math") (by simp [zws]) rfl
          have w4 := zword hw hp (w := .code Lib.Math.max.name Lib.Math.max.code 2 (some .int)) (by simp [zws]) rfl
          exact va_mmax hx hb (hml.trans hL.1.symm) hown w1 w2 w3 w4 (by omega) (by rw [zwt_map]; omega) (by omega) (by omega) hdg (k H locs cells slots ls hR hS hL hc hz)
      · simp at hs
    · simp at hs
  | _ => simp [zskip] at hs
end ZA

/-! orders by keys that are alike; opening the shelves -/
theorem zrn_congr2 {A : Type} (f g : Nat → A → A) (n : Nat) (h : ∀ k s, k < n → f k s = g k s) (s : A) : zrn f n 0 s = zrn g n 0 s := zrn_congr f g n h n 0 s (by omega)
theorem zjoint_congr {K K' : Nat → Nat → Int32} {q set nr b : Nat} (h : ∀ r, r < nr → K r b = K' r b) : zjoint K q set nr b = zjoint K' q set nr b := by
  unfold zjoint
  rw [zrn_congr2 (zjt K q set b) (zjt K' q set b) nr (fun r p hr => by unfold zjt; rw [h r hr])]
set_option maxRecDepth 100000 in
theorem znx_in : ∀ c, c < 7 → ∀ set, set < 64 → set ≠ 0 → set.testBit (znx set 6 c) = true := by decide +kernel
theorem ztu_congr {K K' : Nat → Nat → Int32} {nb nr set : Nat} (hset : set < 2 ^ nr) (hnr : nr ≤ 6) (h0 : set ≠ 0) (h : ∀ r b, r < nr → b < nb → K r b = K' r b) : ∀ (d c : Nat) (ok ok' : Nat → Bool), c < 7 → (∀ b, b < nb → ok b = ok' b) → ztu K nb set d c ok = ztu K' nb set d c ok' := by
  have h64 : set < 64 := z64 hnr hset
  intro d
  induction d with
  | zero => intro c ok ok' _ _; exact (rfl : ([] : List Nat) = [])
  | succ d ih =>
    intro c ok ok' hc hok
    have hx : znx set 6 c < nr := by
      have h1 := znx_in c hc set h64 h0
      by_cases h2 : znx set 6 c < nr
      · exact h2
      · rw [Nat.testBit_lt_two_pow (Nat.lt_of_lt_of_le hset (Nat.pow_le_pow_right (by decide) (by omega)))] at h1
        cases h1
    have e : ztp K nb set c ok = ztp K' nb set c ok' := zbest_congr hok (fun b hb _ => h _ b hx hb)
    have step : ∀ (K : Nat → Nat → Int32) (ok : Nat → Bool), ztu K nb set (d + 1) c ok = match ztp K nb set c ok with
        | none => []
        | some b => b :: ztu K nb set d (ztn set c) (zwo ok b) := fun _ _ => rfl
    rw [step, step, e]
    cases ztp K' nb set c ok' with
    | none => exact (rfl : ([] : List Nat) = [])
    | some b =>
      have hn : ztn set c < 7 := by unfold ztn; omega
      simp only [ih (ztn set c) (zwo ok b) (zwo ok' b) hn (fun b' hb' => by unfold zwo; rw [hok b' hb'])]
theorem zord_congr {K K' : Nat → Nat → Int32} {q nr nb set : Nat} {ok ok' : Nat → Bool} (hset : set < 2 ^ nr) (hnr : nr ≤ 6) (h : ∀ r b, r < nr → b < nb → K r b = K' r b) (hok : ∀ b, b < nb → ok b = ok' b) : zord K q nr nb ok set = zord K' q nr nb ok' set := by
  unfold zord
  by_cases hc : q = 3 ∧ set ≠ 0
  · rw [if_pos hc, if_pos hc]
    exact ztu_congr hset hnr hc.2 h 10 0 ok ok' (by decide) hok
  · rw [if_neg hc, if_neg hc, zsel_congr (v := zjoint K q set nr) (v' := zjoint K' q set nr) (fun b hb => zjoint_congr (fun r hr => h r b hr hb))]
    exact zgo_congr (n := nb) (fun c ok ok' h => zbest_congr h (fun _ _ _ => rfl)) 10 0 ok ok' hok
/-- all that a query may leave otherwise -/
def zSg (a k : Nat) : Bool :=
  a == 9 || a == 12 || a == 20 || a == 23 || a == 34 || (Nat.ble 35 a && Nat.ble a 39) || (Nat.ble 47 a && Nat.ble a 50) || (a == 51 && (k != 2 && k != 3)) || (Nat.ble 52 a && Nat.ble a 67) || a == 101 || a == 102 || (Nat.ble 112 a && Nat.ble a 115) ||
  (Nat.ble 118 a && Nat.ble a 121) || a == 123 || a == 125 || a == 131 || (a == 91 && (k == 54 || (Nat.ble 66 k && Nat.ble k 69)))
theorem zSg_ls : ∀ a k, zLs a k = true → zSg a k = true := fun a k h => by
  unfold zLs at h
  simp at h
  rcases h with (rfl | rfl) | ⟨rfl, rfl⟩ <;> rfl
theorem zSg_xls : ∀ a k, zXls a k = true → zSg a k = true := fun a k h => by
  unfold zXls at h
  simp at h
  rcases h with (rfl | rfl) | ⟨rfl, rfl⟩ <;> rfl
theorem zSg_ks {s : Nat} (hs : s = 2 ∨ s = 13) : ∀ a k, zKs s a k = true → zSg a k = true := fun a k h => by
  unfold zKs at h
  simp at h
  rcases h with (rfl | ⟨⟨rfl, h1⟩, h2⟩) | rfl
  · rfl
  · simp [zSg, h1, h2]
  · rcases hs with rfl | rfl <;> rfl
theorem zfr_g {S : Nat → Nat → Bool} {I I' : Nat → Nat → Int32} (h : zfr S I I') (hm : ∀ a k, S a k = true → zSg a k = true) : zfr zSg I I' := zfr_mono h hm
theorem zfr_gl {l : List Nat} {I I' : Nat → Nat → Int32} (h : zfr (zSl l) I I') (hm : ∀ a ∈ l, ∀ k, zSg a k = true) : zfr zSg I I' := zfr_slS h hm
section ZOp
variable {I : Nat → Nat → Int32} {J : Nat → Nat → Int64} {t u i f s x : Nat} {nt nb nr hm q N T om : Nat} {LW : List Int32}
theorem g_S_open (hT : T = 2 ∨ T = 13) (hN : N = 30 ∨ N = 35 ∨ N = 76 ∨ N = 81 ∨ N = 86) (hX : zXd I T nt nb nr LW) (h3 : I T 3 = nI q) (hq : q ≤ 3) (ho : I N 4 = nI om) (hom : om < 1024) (w2 : I 51 2 = 0) (w3 : I 51 3 = 0) :
    ∃ I', f_S_open (zs I J (zPt t u i f s x)) 47 T N = some (zs I' J (zPt t u i f T x)) ∧ zfr zSg I I' ∧ (∀ a, a ≠ 47 → a ≠ 48 → a ≠ 51 → a ≠ T + 7 → I' a = I a) ∧ zSh I' T nb nr q (zhm nb om) ∧ ∀ r b, r < nr → b < nb → I' 48 (10 * r + b) = zkx I T nt LW (fun t => I (N + 1) (4 * r + t) + (if nI t = I (N + 2) r then I T 5 else 0)) (I (N + 3) (10 * r + b)) r b := by
  have hnb := hX.2.1.2
  have hnr := hX.2.2.1.2
  have f0 : zfr (fun a k => a == 47 || zKs T a k) I (zup (zup I 47 1 (nI (zhm nb om))) 47 2 0) := zfr_up (zfr_up (zfr_refl _ _) (by simp)) (by simp)
  have rows : ∀ I', zfr (fun a k => a == 47 || zKs T a k) I I' → ∀ a, a ≠ 47 → a ≠ 48 → a ≠ 51 → a ≠ T + 7 → I' a = I a := fun I' h a h1 h2 h3 h4 => zfr_row h a (fun k => by simp [h1, zKs_f hT h2 h3 h4 k])
  obtain ⟨I', ⟨a1, a2, a5⟩, a3⟩ := zfor (fun fuel I' k => f_S_open_34L fuel (zs I' J (zPt t u i f T x)) 47 N (nI k)) nr (fun k I' => zfr (fun a k => a == 47 || zKs T a k) I I' ∧ (I' 47 1 = nI (zhm nb om)) ∧ ∀ r b, r < k → b < nb → I' 48 (10 * r + b) = zkx I T nt LW (fun t => I (N + 1) (4 * r + t) + (if nI t = I (N + 2) r then I T 5 else 0)) (I (N + 3) (10 * r + b)) r b) (fun I' => some (zs I' J (zPt t u i f T x)))
    (fun m k I' hk hi => by
      have R := rows I' hi.1
      have hX' : zXd I' T nt nb nr LW := zXd_rows hX (R _ (by omega) (by omega) (by omega) (by omega)) (R _ (by omega) (by omega) (by omega) (by omega)) (R _ (by omega) (by omega) (by omega) (by omega))
      have v2 : I' 51 2 = 0 := (hi.1 51 2 (by simp [zKs]; omega)).trans w2
      have v3 : I' 51 3 = 0 := (hi.1 51 3 (by simp [zKs]; omega)).trans w3
      have hle : ¬ nr ≤ k := by omega
      obtain ⟨I2, b1, b2, b3, b4⟩ := g_S_weigh (J := J) (t := t) (u := u) (i := i) (f := f) (x := x) hT hN hX' v2 v3 (show k < 6 by omega) (I' (N + 2) k)
      refine ⟨I2, ⟨zfr_trans hi.1 (zfr_mono b2 (fun a k h => by simp [h])), ?_, fun r b hr hb => ?_⟩, ?_⟩
      · rw [zKs_row hT b2 47 (by decide) (by decide) (by omega)]; exact hi.2.1
      · by_cases hrk : r = k
        · subst hrk
          rw [b3 b hb, R (N + 1) (by omega) (by omega) (by omega) (by omega), R (N + 2) (by omega) (by omega) (by omega) (by omega), R (N + 3) (by omega) (by omega) (by omega) (by omega), R T (by omega) (by omega) (by omega) (by omega)]
          unfold zkx
          rw [R (T + 1) (by omega) (by omega) (by omega) (by omega), R (T + 3) (by omega) (by omega) (by omega) (by omega)]
        · rw [b4 _ (by omega)]; exact hi.2.2 r b (by omega) hb
      · show f_S_open_34L (m + 1) _ _ _ _ = _
        rw [f_S_open_34L]
        simp (disch := (first | omega | assumption)) only [f_S_open_34, gi_10, gp_8_0, gp_4_1, ai_4_1, zbs, nI_add, pk_mul, znI_add1, znI_sub1, znI_subm, zle_nI, zlt_nI, zeq_nI, zle_0, zeq_0, zlt_0, zeq_m, zeq_1, zge_0, zbt0, zbt1, zB_0, zB_1, zB_b, zbool_0, zbool_1, ↓reduceIte, hX'.2.2.1.1, hle, b1])
    (fun m I' hi => by
      have R := rows I' hi.1
      have m2 : I' T 2 = nI nr := by rw [R T (by omega) (by omega) (by omega) (by omega)]; exact hX.2.2.1.1
      show f_S_open_34L (m + 1) _ _ _ _ = _
      rw [f_S_open_34L]
      simp (disch := (first | omega | assumption)) only [f_S_open_34, gi_10, gp_8_0, gp_4_1, ai_4_1, zbs, nI_add, pk_mul, znI_add1, znI_sub1, znI_subm, zle_nI, zlt_nI, zeq_nI, zle_0, zeq_0, zlt_0, zeq_m, zeq_1, zge_0, zbt0, zbt1, zB_0, zB_1, zB_b, zbool_0, zbool_1, ↓reduceIte, m2, Nat.le_refl]) nr 0 (zup (zup I 47 1 (nI (zhm nb om))) 47 2 0) zfu (by omega) ⟨f0, (by rw [zup_k _ _ (by decide), zup_s]), fun r b hr => by omega⟩ (zfu_lt (by omega))
  have R := rows I' a1
  refine ⟨I', ?_, ?_, R, ⟨?_, hnb, ?_, hnr, ?_, hq, a2, zhm_lt hnb, fun b hb => ?_⟩, a5⟩
  · have hz := zhm_I hnb hom
    simp (disch := (first | omega | assumption)) only [f_S_open, zg_8, gi_10, gi_4, si_8, sp_8, gp_8_0, zbs, nI_add, pk_mul, znI_add1, znI_sub1, znI_subm, zle_nI, zlt_nI, zeq_nI, zle_0, zeq_0, zlt_0, zeq_m, zeq_1, zge_0, zbt0, zbt1, zB_0, zB_1, zB_b, zbool_0, zbool_1, ↓reduceIte, zput_s, hX.2.1.1, ho, hz]
    exact a3
  · refine zfr_mono a1 (fun a k h => ?_)
    simp at h
    rcases h with rfl | h
    · rfl
    · exact zSg_ks hT a k h
  · rw [R T (by omega) (by omega) (by omega) (by omega)]; exact hX.2.1.1
  · rw [R T (by omega) (by omega) (by omega) (by omega)]; exact hX.2.2.1.1
  · rw [R T (by omega) (by omega) (by omega) (by omega)]; exact h3
  · rw [zhm_b hnb] at hb
    simp at hb
    exact hb.1
end ZOp

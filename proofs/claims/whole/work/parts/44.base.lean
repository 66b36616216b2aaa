/-! printed: reads and writes at the addresses of the layout -/
section ZB
variable {I : Nat → Nat → Int32} {J : Nat → Nat → Int64} {P : Nat → Nat → Option Nat} {t u i f s x k A : Nat} {v : Int32} {w : Int64} {v2 : Nat}
theorem zai {kd n a : Nat} (h : zLAY[a]? = some (kd, n)) (hn : n < 2 ^ 31) (hk : k < n) : zaI (zs I J P) kd a (nI k) = some (I a k) := by
  rw [zs_aI h (zin_nI hk hn), nI_clamp (Nat.lt_trans hk hn)]
theorem zwi {n a : Nat} (h : zLAY[a]? = some (1, n)) (hn : n < 2 ^ 31) (hk : k < n) : zwI (zs I J P) 1 a (nI k) v = some (zs (zup I a k v) J P) := by
  rw [zs_wI h (zin_nI hk hn), nI_clamp (Nat.lt_trans hk hn)]
  rfl
theorem zwi3 {n a : Nat} (h : zLAY[a]? = some (3, n)) (hn : n < 2 ^ 31) (hk : k < n) : zwI (zs I J P) 3 a (nI k) v = some (zs (zup I a k (vp_nar .boolean v)) J P) := by
  rw [zs_wI h (zin_nI hk hn), nI_clamp (Nat.lt_trans hk hn)]
  rfl
theorem zwi2 {n a : Nat} (h : zLAY[a]? = some (2, n)) (hn : n < 2 ^ 31) (hk : k < n) : zwI (zs I J P) 2 a (nI k) v = some (zs (zup I a k (vp_nar .byte v)) J P) := by
  rw [zs_wI h (zin_nI hk hn), nI_clamp (Nat.lt_trans hk hn)]
  rfl
theorem zaj {n a : Nat} (h : zLAY[a]? = some (4, n)) (hn : n < 2 ^ 31) (hk : k < n) : zaJ (zs I J P) a (nI k) = some (J a k) := by
  rw [zs_aJ h (zin_nI hk hn), nI_clamp (Nat.lt_trans hk hn)]
theorem zwj {n a : Nat} (h : zLAY[a]? = some (4, n)) (hn : n < 2 ^ 31) (hk : k < n) : zwJ (zs I J P) a (nI k) w = some (zs I (zup J a k w) P) := by
  rw [zs_wJ h (zin_nI hk hn), nI_clamp (Nat.lt_trans hk hn)]
theorem zg_11 {α : Type} {q : Option α} : zg (zs I J P) 11 0 q = q := zs_g zl_0
theorem gi_11 : zgI (zs I J P) 11 0 k = some (I 0 k) := zs_gI zl_0
theorem gj_11 : zgJ (zs I J P) 11 0 k = some (J 0 k) := zs_gJ zl_0
theorem si_11 : zsI (zs I J P) 11 0 k v = some (zs (zup I 0 k v) J P) := zs_sI zl_0
theorem sj_11 : zsJ (zs I J P) 11 0 k w = some (zs I (zup J 0 k w) P) := zs_sJ zl_0
theorem sp_11 : zsP (zs I J P) 11 0 k v2 = some (zs I J (zup P 0 k (some v2))) := zs_sP zl_0
theorem ai_1 (hk : k < 1600) : zaI (zs I J P) 2 1 (nI k) = some (I 1 k) := zai zl_1 (by decide) hk
theorem wi_1 (hk : k < 1600) : zwI (zs I J P) 2 1 (nI k) v = some (zs (zup I 1 k (vp_nar .byte v)) J P) := zwi2 zl_1 (by decide) hk
theorem ai_3 (hk : k < 40) : zaI (zs I J P) 1 3 (nI k) = some (I 3 k) := zai zl_3 (by decide) hk
theorem wi_3 (hk : k < 40) : zwI (zs I J P) 1 3 (nI k) v = some (zs (zup I 3 k v) J P) := zwi zl_3 (by decide) hk
theorem ai_4 (hk : k < 24) : zaI (zs I J P) 1 4 (nI k) = some (I 4 k) := zai zl_4 (by decide) hk
theorem wi_4 (hk : k < 24) : zwI (zs I J P) 1 4 (nI k) v = some (zs (zup I 4 k v) J P) := zwi zl_4 (by decide) hk
theorem ai_5 (hk : k < 24) : zaI (zs I J P) 1 5 (nI k) = some (I 5 k) := zai zl_5 (by decide) hk
theorem wi_5 (hk : k < 24) : zwI (zs I J P) 1 5 (nI k) v = some (zs (zup I 5 k v) J P) := zwi zl_5 (by decide) hk
theorem ai_6 (hk : k < 6) : zaI (zs I J P) 1 6 (nI k) = some (I 6 k) := zai zl_6 (by decide) hk
theorem wi_6 (hk : k < 6) : zwI (zs I J P) 1 6 (nI k) v = some (zs (zup I 6 k v) J P) := zwi zl_6 (by decide) hk
theorem ai_8 (hk : k < 270) : zaI (zs I J P) 1 8 (nI k) = some (I 8 k) := zai zl_8 (by decide) hk
theorem wi_8 (hk : k < 270) : zwI (zs I J P) 1 8 (nI k) v = some (zs (zup I 8 k v) J P) := zwi zl_8 (by decide) hk
theorem ai_9 (hk : k < 30) : zaI (zs I J P) 1 9 (nI k) = some (I 9 k) := zai zl_9 (by decide) hk
theorem wi_9 (hk : k < 30) : zwI (zs I J P) 1 9 (nI k) v = some (zs (zup I 9 k v) J P) := zwi zl_9 (by decide) hk
theorem ai_11 (hk : k < 270) : zaI (zs I J P) 1 11 (nI k) = some (I 11 k) := zai zl_11 (by decide) hk
theorem wi_11 (hk : k < 270) : zwI (zs I J P) 1 11 (nI k) v = some (zs (zup I 11 k v) J P) := zwi zl_11 (by decide) hk
theorem ai_12 (hk : k < 30) : zaI (zs I J P) 1 12 (nI k) = some (I 12 k) := zai zl_12 (by decide) hk
theorem wi_12 (hk : k < 30) : zwI (zs I J P) 1 12 (nI k) v = some (zs (zup I 12 k v) J P) := zwi zl_12 (by decide) hk
theorem ai_14 (hk : k < 40) : zaI (zs I J P) 1 14 (nI k) = some (I 14 k) := zai zl_14 (by decide) hk
theorem wi_14 (hk : k < 40) : zwI (zs I J P) 1 14 (nI k) v = some (zs (zup I 14 k v) J P) := zwi zl_14 (by decide) hk
theorem ai_15 (hk : k < 24) : zaI (zs I J P) 1 15 (nI k) = some (I 15 k) := zai zl_15 (by decide) hk
theorem wi_15 (hk : k < 24) : zwI (zs I J P) 1 15 (nI k) v = some (zs (zup I 15 k v) J P) := zwi zl_15 (by decide) hk
theorem ai_16 (hk : k < 24) : zaI (zs I J P) 1 16 (nI k) = some (I 16 k) := zai zl_16 (by decide) hk
theorem wi_16 (hk : k < 24) : zwI (zs I J P) 1 16 (nI k) v = some (zs (zup I 16 k v) J P) := zwi zl_16 (by decide) hk
theorem ai_17 (hk : k < 6) : zaI (zs I J P) 1 17 (nI k) = some (I 17 k) := zai zl_17 (by decide) hk
theorem wi_17 (hk : k < 6) : zwI (zs I J P) 1 17 (nI k) v = some (zs (zup I 17 k v) J P) := zwi zl_17 (by decide) hk
theorem ai_19 (hk : k < 270) : zaI (zs I J P) 1 19 (nI k) = some (I 19 k) := zai zl_19 (by decide) hk
theorem wi_19 (hk : k < 270) : zwI (zs I J P) 1 19 (nI k) v = some (zs (zup I 19 k v) J P) := zwi zl_19 (by decide) hk
theorem ai_20 (hk : k < 30) : zaI (zs I J P) 1 20 (nI k) = some (I 20 k) := zai zl_20 (by decide) hk
theorem wi_20 (hk : k < 30) : zwI (zs I J P) 1 20 (nI k) v = some (zs (zup I 20 k v) J P) := zwi zl_20 (by decide) hk
theorem ai_22 (hk : k < 270) : zaI (zs I J P) 1 22 (nI k) = some (I 22 k) := zai zl_22 (by decide) hk
theorem wi_22 (hk : k < 270) : zwI (zs I J P) 1 22 (nI k) v = some (zs (zup I 22 k v) J P) := zwi zl_22 (by decide) hk
theorem ai_23 (hk : k < 30) : zaI (zs I J P) 1 23 (nI k) = some (I 23 k) := zai zl_23 (by decide) hk
theorem wi_23 (hk : k < 30) : zwI (zs I J P) 1 23 (nI k) v = some (zs (zup I 23 k v) J P) := zwi zl_23 (by decide) hk
theorem zg_9 {α : Type} {q : Option α} : zg (zs I J P) 9 24 q = q := zs_g zl_24
theorem gi_9 : zgI (zs I J P) 9 24 k = some (I 24 k) := zs_gI zl_24
theorem gj_9 : zgJ (zs I J P) 9 24 k = some (J 24 k) := zs_gJ zl_24
theorem si_9 : zsI (zs I J P) 9 24 k v = some (zs (zup I 24 k v) J P) := zs_sI zl_24
theorem sj_9 : zsJ (zs I J P) 9 24 k w = some (zs I (zup J 24 k w) P) := zs_sJ zl_24
theorem sp_9 : zsP (zs I J P) 9 24 k v2 = some (zs I J (zup P 24 k (some v2))) := zs_sP zl_24
theorem zg_7 {α : Type} {q : Option α} : zg (zs I J P) 7 25 q = q := zs_g zl_25
theorem gi_7 : zgI (zs I J P) 7 25 k = some (I 25 k) := zs_gI zl_25
theorem gj_7 : zgJ (zs I J P) 7 25 k = some (J 25 k) := zs_gJ zl_25
theorem si_7 : zsI (zs I J P) 7 25 k v = some (zs (zup I 25 k v) J P) := zs_sI zl_25
theorem sj_7 : zsJ (zs I J P) 7 25 k w = some (zs I (zup J 25 k w) P) := zs_sJ zl_25
theorem sp_7 : zsP (zs I J P) 7 25 k v2 = some (zs I J (zup P 25 k (some v2))) := zs_sP zl_25
theorem ai_26 (hk : k < 0) : zaI (zs I J P) 2 26 (nI k) = some (I 26 k) := zai zl_26 (by decide) hk
theorem wi_26 (hk : k < 0) : zwI (zs I J P) 2 26 (nI k) v = some (zs (zup I 26 k (vp_nar .byte v)) J P) := zwi2 zl_26 (by decide) hk
theorem aj_27 (hk : k < 4) : zaJ (zs I J P) 27 (nI k) = some (J 27 k) := zaj zl_27 (by decide) hk
theorem wj_27 (hk : k < 4) : zwJ (zs I J P) 27 (nI k) w = some (zs I (zup J 27 k w) P) := zwj zl_27 (by decide) hk
theorem aj_28 (hk : k < 10) : zaJ (zs I J P) 28 (nI k) = some (J 28 k) := zaj zl_28 (by decide) hk
theorem wj_28 (hk : k < 10) : zwJ (zs I J P) 28 (nI k) w = some (zs I (zup J 28 k w) P) := zwj zl_28 (by decide) hk
theorem aj_29 (hk : k < 6) : zaJ (zs I J P) 29 (nI k) = some (J 29 k) := zaj zl_29 (by decide) hk
theorem wj_29 (hk : k < 6) : zwJ (zs I J P) 29 (nI k) w = some (zs I (zup J 29 k w) P) := zwj zl_29 (by decide) hk
theorem ai_31 (hk : k < 24) : zaI (zs I J P) 1 31 (nI k) = some (I 31 k) := zai zl_31 (by decide) hk
theorem wi_31 (hk : k < 24) : zwI (zs I J P) 1 31 (nI k) v = some (zs (zup I 31 k v) J P) := zwi zl_31 (by decide) hk
theorem ai_32 (hk : k < 6) : zaI (zs I J P) 1 32 (nI k) = some (I 32 k) := zai zl_32 (by decide) hk
theorem wi_32 (hk : k < 6) : zwI (zs I J P) 1 32 (nI k) v = some (zs (zup I 32 k v) J P) := zwi zl_32 (by decide) hk
theorem ai_33 (hk : k < 60) : zaI (zs I J P) 1 33 (nI k) = some (I 33 k) := zai zl_33 (by decide) hk
theorem wi_33 (hk : k < 60) : zwI (zs I J P) 1 33 (nI k) v = some (zs (zup I 33 k v) J P) := zwi zl_33 (by decide) hk
theorem ai_34 (hk : k < 6) : zaI (zs I J P) 1 34 (nI k) = some (I 34 k) := zai zl_34 (by decide) hk
theorem wi_34 (hk : k < 6) : zwI (zs I J P) 1 34 (nI k) v = some (zs (zup I 34 k v) J P) := zwi zl_34 (by decide) hk
theorem ai_36 (hk : k < 24) : zaI (zs I J P) 1 36 (nI k) = some (I 36 k) := zai zl_36 (by decide) hk
theorem wi_36 (hk : k < 24) : zwI (zs I J P) 1 36 (nI k) v = some (zs (zup I 36 k v) J P) := zwi zl_36 (by decide) hk
theorem ai_37 (hk : k < 6) : zaI (zs I J P) 1 37 (nI k) = some (I 37 k) := zai zl_37 (by decide) hk
theorem wi_37 (hk : k < 6) : zwI (zs I J P) 1 37 (nI k) v = some (zs (zup I 37 k v) J P) := zwi zl_37 (by decide) hk
theorem ai_38 (hk : k < 60) : zaI (zs I J P) 1 38 (nI k) = some (I 38 k) := zai zl_38 (by decide) hk
theorem wi_38 (hk : k < 60) : zwI (zs I J P) 1 38 (nI k) v = some (zs (zup I 38 k v) J P) := zwi zl_38 (by decide) hk
theorem ai_39 (hk : k < 6) : zaI (zs I J P) 1 39 (nI k) = some (I 39 k) := zai zl_39 (by decide) hk
theorem wi_39 (hk : k < 6) : zwI (zs I J P) 1 39 (nI k) v = some (zs (zup I 39 k v) J P) := zwi zl_39 (by decide) hk
theorem zg_0 {α : Type} {q : Option α} : zg (zs I J P) 0 41 q = q := zs_g zl_41
theorem gi_0 : zgI (zs I J P) 0 41 k = some (I 41 k) := zs_gI zl_41
theorem gj_0 : zgJ (zs I J P) 0 41 k = some (J 41 k) := zs_gJ zl_41
theorem si_0 : zsI (zs I J P) 0 41 k v = some (zs (zup I 41 k v) J P) := zs_sI zl_41
theorem sj_0 : zsJ (zs I J P) 0 41 k w = some (zs I (zup J 41 k w) P) := zs_sJ zl_41
theorem sp_0 : zsP (zs I J P) 0 41 k v2 = some (zs I J (zup P 41 k (some v2))) := zs_sP zl_41
theorem ai_42 (hk : k < 40) : zaI (zs I J P) 1 42 (nI k) = some (I 42 k) := zai zl_42 (by decide) hk
theorem wi_42 (hk : k < 40) : zwI (zs I J P) 1 42 (nI k) v = some (zs (zup I 42 k v) J P) := zwi zl_42 (by decide) hk
theorem ai_43 (hk : k < 40) : zaI (zs I J P) 1 43 (nI k) = some (I 43 k) := zai zl_43 (by decide) hk
theorem wi_43 (hk : k < 40) : zwI (zs I J P) 1 43 (nI k) v = some (zs (zup I 43 k v) J P) := zwi zl_43 (by decide) hk
theorem ai_44 (hk : k < 40) : zaI (zs I J P) 1 44 (nI k) = some (I 44 k) := zai zl_44 (by decide) hk
theorem wi_44 (hk : k < 40) : zwI (zs I J P) 1 44 (nI k) v = some (zs (zup I 44 k v) J P) := zwi zl_44 (by decide) hk
theorem ai_45 (hk : k < 40) : zaI (zs I J P) 1 45 (nI k) = some (I 45 k) := zai zl_45 (by decide) hk
theorem wi_45 (hk : k < 40) : zwI (zs I J P) 1 45 (nI k) v = some (zs (zup I 45 k v) J P) := zwi zl_45 (by decide) hk
theorem ai_46 (hk : k < 160) : zaI (zs I J P) 1 46 (nI k) = some (I 46 k) := zai zl_46 (by decide) hk
theorem wi_46 (hk : k < 160) : zwI (zs I J P) 1 46 (nI k) v = some (zs (zup I 46 k v) J P) := zwi zl_46 (by decide) hk
theorem zg_8 {α : Type} {q : Option α} : zg (zs I J P) 8 47 q = q := zs_g zl_47
theorem gi_8 : zgI (zs I J P) 8 47 k = some (I 47 k) := zs_gI zl_47
theorem gj_8 : zgJ (zs I J P) 8 47 k = some (J 47 k) := zs_gJ zl_47
theorem si_8 : zsI (zs I J P) 8 47 k v = some (zs (zup I 47 k v) J P) := zs_sI zl_47
theorem sj_8 : zsJ (zs I J P) 8 47 k w = some (zs I (zup J 47 k w) P) := zs_sJ zl_47
theorem sp_8 : zsP (zs I J P) 8 47 k v2 = some (zs I J (zup P 47 k (some v2))) := zs_sP zl_47
theorem ai_48 (hk : k < 60) : zaI (zs I J P) 1 48 (nI k) = some (I 48 k) := zai zl_48 (by decide) hk
theorem wi_48 (hk : k < 60) : zwI (zs I J P) 1 48 (nI k) v = some (zs (zup I 48 k v) J P) := zwi zl_48 (by decide) hk
theorem ai_49 (hk : k < 10) : zaI (zs I J P) 1 49 (nI k) = some (I 49 k) := zai zl_49 (by decide) hk
theorem wi_49 (hk : k < 10) : zwI (zs I J P) 1 49 (nI k) v = some (zs (zup I 49 k v) J P) := zwi zl_49 (by decide) hk
theorem ai_50 (hk : k < 10) : zaI (zs I J P) 1 50 (nI k) = some (I 50 k) := zai zl_50 (by decide) hk
theorem wi_50 (hk : k < 10) : zwI (zs I J P) 1 50 (nI k) v = some (zs (zup I 50 k v) J P) := zwi zl_50 (by decide) hk
theorem ai_51 (hk : k < 6) : zaI (zs I J P) 1 51 (nI k) = some (I 51 k) := zai zl_51 (by decide) hk
theorem wi_51 (hk : k < 6) : zwI (zs I J P) 1 51 (nI k) v = some (zs (zup I 51 k v) J P) := zwi zl_51 (by decide) hk
theorem ai_53 (hk : k < 2500) : zaI (zs I J P) 1 53 (nI k) = some (I 53 k) := zai zl_53 (by decide) hk
theorem wi_53 (hk : k < 2500) : zwI (zs I J P) 1 53 (nI k) v = some (zs (zup I 53 k v) J P) := zwi zl_53 (by decide) hk
theorem ai_54 (hk : k < 6250) : zaI (zs I J P) 1 54 (nI k) = some (I 54 k) := zai zl_54 (by decide) hk
theorem wi_54 (hk : k < 6250) : zwI (zs I J P) 1 54 (nI k) v = some (zs (zup I 54 k v) J P) := zwi zl_54 (by decide) hk
theorem ai_55 (hk : k < 625) : zaI (zs I J P) 1 55 (nI k) = some (I 55 k) := zai zl_55 (by decide) hk
theorem wi_55 (hk : k < 625) : zwI (zs I J P) 1 55 (nI k) v = some (zs (zup I 55 k v) J P) := zwi zl_55 (by decide) hk
theorem ai_57 (hk : k < 2500) : zaI (zs I J P) 1 57 (nI k) = some (I 57 k) := zai zl_57 (by decide) hk
theorem wi_57 (hk : k < 2500) : zwI (zs I J P) 1 57 (nI k) v = some (zs (zup I 57 k v) J P) := zwi zl_57 (by decide) hk
theorem ai_58 (hk : k < 6250) : zaI (zs I J P) 1 58 (nI k) = some (I 58 k) := zai zl_58 (by decide) hk
theorem wi_58 (hk : k < 6250) : zwI (zs I J P) 1 58 (nI k) v = some (zs (zup I 58 k v) J P) := zwi zl_58 (by decide) hk
theorem ai_59 (hk : k < 625) : zaI (zs I J P) 1 59 (nI k) = some (I 59 k) := zai zl_59 (by decide) hk
theorem wi_59 (hk : k < 625) : zwI (zs I J P) 1 59 (nI k) v = some (zs (zup I 59 k v) J P) := zwi zl_59 (by decide) hk
theorem zg_5 {α : Type} {q : Option α} : zg (zs I J P) 5 60 q = q := zs_g zl_60
theorem gi_5 : zgI (zs I J P) 5 60 k = some (I 60 k) := zs_gI zl_60
theorem gj_5 : zgJ (zs I J P) 5 60 k = some (J 60 k) := zs_gJ zl_60
theorem si_5 : zsI (zs I J P) 5 60 k v = some (zs (zup I 60 k v) J P) := zs_sI zl_60
theorem sj_5 : zsJ (zs I J P) 5 60 k w = some (zs I (zup J 60 k w) P) := zs_sJ zl_60
theorem sp_5 : zsP (zs I J P) 5 60 k v2 = some (zs I J (zup P 60 k (some v2))) := zs_sP zl_60
theorem aj_61 (hk : k < 625) : zaJ (zs I J P) 61 (nI k) = some (J 61 k) := zaj zl_61 (by decide) hk
theorem wj_61 (hk : k < 625) : zwJ (zs I J P) 61 (nI k) w = some (zs I (zup J 61 k w) P) := zwj zl_61 (by decide) hk
theorem ai_62 (hk : k < 625) : zaI (zs I J P) 1 62 (nI k) = some (I 62 k) := zai zl_62 (by decide) hk
theorem wi_62 (hk : k < 625) : zwI (zs I J P) 1 62 (nI k) v = some (zs (zup I 62 k v) J P) := zwi zl_62 (by decide) hk
theorem ai_63 (hk : k < 625) : zaI (zs I J P) 1 63 (nI k) = some (I 63 k) := zai zl_63 (by decide) hk
theorem wi_63 (hk : k < 625) : zwI (zs I J P) 1 63 (nI k) v = some (zs (zup I 63 k v) J P) := zwi zl_63 (by decide) hk
theorem zg_1 {α : Type} {q : Option α} : zg (zs I J P) 1 64 q = q := zs_g zl_64
theorem gi_1 : zgI (zs I J P) 1 64 k = some (I 64 k) := zs_gI zl_64
theorem gj_1 : zgJ (zs I J P) 1 64 k = some (J 64 k) := zs_gJ zl_64
theorem si_1 : zsI (zs I J P) 1 64 k v = some (zs (zup I 64 k v) J P) := zs_sI zl_64
theorem sj_1 : zsJ (zs I J P) 1 64 k w = some (zs I (zup J 64 k w) P) := zs_sJ zl_64
theorem sp_1 : zsP (zs I J P) 1 64 k v2 = some (zs I J (zup P 64 k (some v2))) := zs_sP zl_64
theorem ai_65 (hk : k < 1024) : zaI (zs I J P) 1 65 (nI k) = some (I 65 k) := zai zl_65 (by decide) hk
theorem wi_65 (hk : k < 1024) : zwI (zs I J P) 1 65 (nI k) v = some (zs (zup I 65 k v) J P) := zwi zl_65 (by decide) hk
theorem ai_66 (hk : k < 1024) : zaI (zs I J P) 1 66 (nI k) = some (I 66 k) := zai zl_66 (by decide) hk
theorem wi_66 (hk : k < 1024) : zwI (zs I J P) 1 66 (nI k) v = some (zs (zup I 66 k v) J P) := zwi zl_66 (by decide) hk
theorem ai_67 (hk : k < 1024) : zaI (zs I J P) 1 67 (nI k) = some (I 67 k) := zai zl_67 (by decide) hk
theorem wi_67 (hk : k < 1024) : zwI (zs I J P) 1 67 (nI k) v = some (zs (zup I 67 k v) J P) := zwi zl_67 (by decide) hk
theorem zg_3 {α : Type} {q : Option α} : zg (zs I J P) 3 68 q = q := zs_g zl_68
theorem gi_3 : zgI (zs I J P) 3 68 k = some (I 68 k) := zs_gI zl_68
theorem gj_3 : zgJ (zs I J P) 3 68 k = some (J 68 k) := zs_gJ zl_68
theorem si_3 : zsI (zs I J P) 3 68 k v = some (zs (zup I 68 k v) J P) := zs_sI zl_68
theorem sj_3 : zsJ (zs I J P) 3 68 k w = some (zs I (zup J 68 k w) P) := zs_sJ zl_68
theorem sp_3 : zsP (zs I J P) 3 68 k v2 = some (zs I J (zup P 68 k (some v2))) := zs_sP zl_68
theorem ai_69 (hk : k < 30) : zaI (zs I J P) 1 69 (nI k) = some (I 69 k) := zai zl_69 (by decide) hk
theorem wi_69 (hk : k < 30) : zwI (zs I J P) 1 69 (nI k) v = some (zs (zup I 69 k v) J P) := zwi zl_69 (by decide) hk
theorem ai_70 (hk : k < 30) : zaI (zs I J P) 1 70 (nI k) = some (I 70 k) := zai zl_70 (by decide) hk
theorem wi_70 (hk : k < 30) : zwI (zs I J P) 1 70 (nI k) v = some (zs (zup I 70 k v) J P) := zwi zl_70 (by decide) hk
theorem ai_71 (hk : k < 30) : zaI (zs I J P) 1 71 (nI k) = some (I 71 k) := zai zl_71 (by decide) hk
theorem wi_71 (hk : k < 30) : zwI (zs I J P) 1 71 (nI k) v = some (zs (zup I 71 k v) J P) := zwi zl_71 (by decide) hk
theorem ai_72 (hk : k < 30) : zaI (zs I J P) 1 72 (nI k) = some (I 72 k) := zai zl_72 (by decide) hk
theorem wi_72 (hk : k < 30) : zwI (zs I J P) 1 72 (nI k) v = some (zs (zup I 72 k v) J P) := zwi zl_72 (by decide) hk
theorem ai_73 (hk : k < 30) : zaI (zs I J P) 1 73 (nI k) = some (I 73 k) := zai zl_73 (by decide) hk
theorem wi_73 (hk : k < 30) : zwI (zs I J P) 1 73 (nI k) v = some (zs (zup I 73 k v) J P) := zwi zl_73 (by decide) hk
theorem ai_74 (hk : k < 10) : zaI (zs I J P) 1 74 (nI k) = some (I 74 k) := zai zl_74 (by decide) hk
theorem wi_74 (hk : k < 10) : zwI (zs I J P) 1 74 (nI k) v = some (zs (zup I 74 k v) J P) := zwi zl_74 (by decide) hk
theorem ai_75 (hk : k < 10) : zaI (zs I J P) 1 75 (nI k) = some (I 75 k) := zai zl_75 (by decide) hk
theorem wi_75 (hk : k < 10) : zwI (zs I J P) 1 75 (nI k) v = some (zs (zup I 75 k v) J P) := zwi zl_75 (by decide) hk
theorem ai_77 (hk : k < 24) : zaI (zs I J P) 1 77 (nI k) = some (I 77 k) := zai zl_77 (by decide) hk
theorem wi_77 (hk : k < 24) : zwI (zs I J P) 1 77 (nI k) v = some (zs (zup I 77 k v) J P) := zwi zl_77 (by decide) hk
theorem ai_78 (hk : k < 6) : zaI (zs I J P) 1 78 (nI k) = some (I 78 k) := zai zl_78 (by decide) hk
theorem wi_78 (hk : k < 6) : zwI (zs I J P) 1 78 (nI k) v = some (zs (zup I 78 k v) J P) := zwi zl_78 (by decide) hk
theorem ai_79 (hk : k < 60) : zaI (zs I J P) 1 79 (nI k) = some (I 79 k) := zai zl_79 (by decide) hk
theorem wi_79 (hk : k < 60) : zwI (zs I J P) 1 79 (nI k) v = some (zs (zup I 79 k v) J P) := zwi zl_79 (by decide) hk
theorem ai_80 (hk : k < 6) : zaI (zs I J P) 1 80 (nI k) = some (I 80 k) := zai zl_80 (by decide) hk
theorem wi_80 (hk : k < 6) : zwI (zs I J P) 1 80 (nI k) v = some (zs (zup I 80 k v) J P) := zwi zl_80 (by decide) hk
theorem ai_82 (hk : k < 24) : zaI (zs I J P) 1 82 (nI k) = some (I 82 k) := zai zl_82 (by decide) hk
theorem wi_82 (hk : k < 24) : zwI (zs I J P) 1 82 (nI k) v = some (zs (zup I 82 k v) J P) := zwi zl_82 (by decide) hk
theorem ai_83 (hk : k < 6) : zaI (zs I J P) 1 83 (nI k) = some (I 83 k) := zai zl_83 (by decide) hk
theorem wi_83 (hk : k < 6) : zwI (zs I J P) 1 83 (nI k) v = some (zs (zup I 83 k v) J P) := zwi zl_83 (by decide) hk
theorem ai_84 (hk : k < 60) : zaI (zs I J P) 1 84 (nI k) = some (I 84 k) := zai zl_84 (by decide) hk
theorem wi_84 (hk : k < 60) : zwI (zs I J P) 1 84 (nI k) v = some (zs (zup I 84 k v) J P) := zwi zl_84 (by decide) hk
theorem ai_85 (hk : k < 6) : zaI (zs I J P) 1 85 (nI k) = some (I 85 k) := zai zl_85 (by decide) hk
theorem wi_85 (hk : k < 6) : zwI (zs I J P) 1 85 (nI k) v = some (zs (zup I 85 k v) J P) := zwi zl_85 (by decide) hk
theorem ai_87 (hk : k < 24) : zaI (zs I J P) 1 87 (nI k) = some (I 87 k) := zai zl_87 (by decide) hk
theorem wi_87 (hk : k < 24) : zwI (zs I J P) 1 87 (nI k) v = some (zs (zup I 87 k v) J P) := zwi zl_87 (by decide) hk
theorem ai_88 (hk : k < 6) : zaI (zs I J P) 1 88 (nI k) = some (I 88 k) := zai zl_88 (by decide) hk
theorem wi_88 (hk : k < 6) : zwI (zs I J P) 1 88 (nI k) v = some (zs (zup I 88 k v) J P) := zwi zl_88 (by decide) hk
theorem ai_89 (hk : k < 60) : zaI (zs I J P) 1 89 (nI k) = some (I 89 k) := zai zl_89 (by decide) hk
theorem wi_89 (hk : k < 60) : zwI (zs I J P) 1 89 (nI k) v = some (zs (zup I 89 k v) J P) := zwi zl_89 (by decide) hk
theorem ai_90 (hk : k < 6) : zaI (zs I J P) 1 90 (nI k) = some (I 90 k) := zai zl_90 (by decide) hk
theorem wi_90 (hk : k < 6) : zwI (zs I J P) 1 90 (nI k) v = some (zs (zup I 90 k v) J P) := zwi zl_90 (by decide) hk
theorem zg_12 {α : Type} {q : Option α} : zg (zs I J P) 12 91 q = q := zs_g zl_91
theorem gi_12 : zgI (zs I J P) 12 91 k = some (I 91 k) := zs_gI zl_91
theorem gj_12 : zgJ (zs I J P) 12 91 k = some (J 91 k) := zs_gJ zl_91
theorem si_12 : zsI (zs I J P) 12 91 k v = some (zs (zup I 91 k v) J P) := zs_sI zl_91
theorem sj_12 : zsJ (zs I J P) 12 91 k w = some (zs I (zup J 91 k w) P) := zs_sJ zl_91
theorem sp_12 : zsP (zs I J P) 12 91 k v2 = some (zs I J (zup P 91 k (some v2))) := zs_sP zl_91
theorem ai_92 (hk : k < 1600) : zaI (zs I J P) 1 92 (nI k) = some (I 92 k) := zai zl_92 (by decide) hk
theorem wi_92 (hk : k < 1600) : zwI (zs I J P) 1 92 (nI k) v = some (zs (zup I 92 k v) J P) := zwi zl_92 (by decide) hk
theorem aj_93 (hk : k < 20) : zaJ (zs I J P) 93 (nI k) = some (J 93 k) := zaj zl_93 (by decide) hk
theorem wj_93 (hk : k < 20) : zwJ (zs I J P) 93 (nI k) w = some (zs I (zup J 93 k w) P) := zwj zl_93 (by decide) hk
theorem ai_94 (hk : k < 640) : zaI (zs I J P) 1 94 (nI k) = some (I 94 k) := zai zl_94 (by decide) hk
theorem wi_94 (hk : k < 640) : zwI (zs I J P) 1 94 (nI k) v = some (zs (zup I 94 k v) J P) := zwi zl_94 (by decide) hk
theorem ai_95 (hk : k < 640) : zaI (zs I J P) 1 95 (nI k) = some (I 95 k) := zai zl_95 (by decide) hk
theorem wi_95 (hk : k < 640) : zwI (zs I J P) 1 95 (nI k) v = some (zs (zup I 95 k v) J P) := zwi zl_95 (by decide) hk
theorem ai_96 (hk : k < 2) : zaI (zs I J P) 1 96 (nI k) = some (I 96 k) := zai zl_96 (by decide) hk
theorem wi_96 (hk : k < 2) : zwI (zs I J P) 1 96 (nI k) v = some (zs (zup I 96 k v) J P) := zwi zl_96 (by decide) hk
theorem ai_97 (hk : k < 640) : zaI (zs I J P) 1 97 (nI k) = some (I 97 k) := zai zl_97 (by decide) hk
theorem wi_97 (hk : k < 640) : zwI (zs I J P) 1 97 (nI k) v = some (zs (zup I 97 k v) J P) := zwi zl_97 (by decide) hk
theorem ai_98 (hk : k < 640) : zaI (zs I J P) 1 98 (nI k) = some (I 98 k) := zai zl_98 (by decide) hk
theorem wi_98 (hk : k < 640) : zwI (zs I J P) 1 98 (nI k) v = some (zs (zup I 98 k v) J P) := zwi zl_98 (by decide) hk
theorem ai_99 (hk : k < 2) : zaI (zs I J P) 1 99 (nI k) = some (I 99 k) := zai zl_99 (by decide) hk
theorem wi_99 (hk : k < 2) : zwI (zs I J P) 1 99 (nI k) v = some (zs (zup I 99 k v) J P) := zwi zl_99 (by decide) hk
theorem ai_100 (hk : k < 160) : zaI (zs I J P) 1 100 (nI k) = some (I 100 k) := zai zl_100 (by decide) hk
theorem wi_100 (hk : k < 160) : zwI (zs I J P) 1 100 (nI k) v = some (zs (zup I 100 k v) J P) := zwi zl_100 (by decide) hk
theorem ai_101 (hk : k < 64) : zaI (zs I J P) 1 101 (nI k) = some (I 101 k) := zai zl_101 (by decide) hk
theorem wi_101 (hk : k < 64) : zwI (zs I J P) 1 101 (nI k) v = some (zs (zup I 101 k v) J P) := zwi zl_101 (by decide) hk
theorem ai_102 (hk : k < 6) : zaI (zs I J P) 1 102 (nI k) = some (I 102 k) := zai zl_102 (by decide) hk
theorem wi_102 (hk : k < 6) : zwI (zs I J P) 1 102 (nI k) v = some (zs (zup I 102 k v) J P) := zwi zl_102 (by decide) hk
theorem ai_103 (hk : k < 40) : zaI (zs I J P) 1 103 (nI k) = some (I 103 k) := zai zl_103 (by decide) hk
theorem wi_103 (hk : k < 40) : zwI (zs I J P) 1 103 (nI k) v = some (zs (zup I 103 k v) J P) := zwi zl_103 (by decide) hk
theorem ai_104 (hk : k < 24) : zaI (zs I J P) 1 104 (nI k) = some (I 104 k) := zai zl_104 (by decide) hk
theorem wi_104 (hk : k < 24) : zwI (zs I J P) 1 104 (nI k) v = some (zs (zup I 104 k v) J P) := zwi zl_104 (by decide) hk
theorem ai_105 (hk : k < 24) : zaI (zs I J P) 1 105 (nI k) = some (I 105 k) := zai zl_105 (by decide) hk
theorem wi_105 (hk : k < 24) : zwI (zs I J P) 1 105 (nI k) v = some (zs (zup I 105 k v) J P) := zwi zl_105 (by decide) hk
theorem ai_106 (hk : k < 6) : zaI (zs I J P) 1 106 (nI k) = some (I 106 k) := zai zl_106 (by decide) hk
theorem wi_106 (hk : k < 6) : zwI (zs I J P) 1 106 (nI k) v = some (zs (zup I 106 k v) J P) := zwi zl_106 (by decide) hk
theorem ai_107 (hk : k < 40) : zaI (zs I J P) 1 107 (nI k) = some (I 107 k) := zai zl_107 (by decide) hk
theorem wi_107 (hk : k < 40) : zwI (zs I J P) 1 107 (nI k) v = some (zs (zup I 107 k v) J P) := zwi zl_107 (by decide) hk
theorem ai_108 (hk : k < 24) : zaI (zs I J P) 1 108 (nI k) = some (I 108 k) := zai zl_108 (by decide) hk
theorem wi_108 (hk : k < 24) : zwI (zs I J P) 1 108 (nI k) v = some (zs (zup I 108 k v) J P) := zwi zl_108 (by decide) hk
theorem ai_109 (hk : k < 24) : zaI (zs I J P) 1 109 (nI k) = some (I 109 k) := zai zl_109 (by decide) hk
theorem wi_109 (hk : k < 24) : zwI (zs I J P) 1 109 (nI k) v = some (zs (zup I 109 k v) J P) := zwi zl_109 (by decide) hk
theorem ai_110 (hk : k < 6) : zaI (zs I J P) 1 110 (nI k) = some (I 110 k) := zai zl_110 (by decide) hk
theorem wi_110 (hk : k < 6) : zwI (zs I J P) 1 110 (nI k) v = some (zs (zup I 110 k v) J P) := zwi zl_110 (by decide) hk
theorem ai_111 (hk : k < 96) : zaI (zs I J P) 1 111 (nI k) = some (I 111 k) := zai zl_111 (by decide) hk
theorem wi_111 (hk : k < 96) : zwI (zs I J P) 1 111 (nI k) v = some (zs (zup I 111 k v) J P) := zwi zl_111 (by decide) hk
theorem ai_112 (hk : k < 4) : zaI (zs I J P) 1 112 (nI k) = some (I 112 k) := zai zl_112 (by decide) hk
theorem wi_112 (hk : k < 4) : zwI (zs I J P) 1 112 (nI k) v = some (zs (zup I 112 k v) J P) := zwi zl_112 (by decide) hk
theorem ai_113 (hk : k < 60) : zaI (zs I J P) 1 113 (nI k) = some (I 113 k) := zai zl_113 (by decide) hk
theorem wi_113 (hk : k < 60) : zwI (zs I J P) 1 113 (nI k) v = some (zs (zup I 113 k v) J P) := zwi zl_113 (by decide) hk
theorem ai_114 (hk : k < 10) : zaI (zs I J P) 1 114 (nI k) = some (I 114 k) := zai zl_114 (by decide) hk
theorem wi_114 (hk : k < 10) : zwI (zs I J P) 1 114 (nI k) v = some (zs (zup I 114 k v) J P) := zwi zl_114 (by decide) hk
theorem ai_115 (hk : k < 10) : zaI (zs I J P) 1 115 (nI k) = some (I 115 k) := zai zl_115 (by decide) hk
theorem wi_115 (hk : k < 10) : zwI (zs I J P) 1 115 (nI k) v = some (zs (zup I 115 k v) J P) := zwi zl_115 (by decide) hk
theorem ai_116 (hk : k < 3840) : zaI (zs I J P) 1 116 (nI k) = some (I 116 k) := zai zl_116 (by decide) hk
theorem wi_116 (hk : k < 3840) : zwI (zs I J P) 1 116 (nI k) v = some (zs (zup I 116 k v) J P) := zwi zl_116 (by decide) hk
theorem ai_117 (hk : k < 16) : zaI (zs I J P) 1 117 (nI k) = some (I 117 k) := zai zl_117 (by decide) hk
theorem wi_117 (hk : k < 16) : zwI (zs I J P) 1 117 (nI k) v = some (zs (zup I 117 k v) J P) := zwi zl_117 (by decide) hk
theorem ai_118 (hk : k < 1024) : zaI (zs I J P) 1 118 (nI k) = some (I 118 k) := zai zl_118 (by decide) hk
theorem wi_118 (hk : k < 1024) : zwI (zs I J P) 1 118 (nI k) v = some (zs (zup I 118 k v) J P) := zwi zl_118 (by decide) hk
theorem ai_119 (hk : k < 1024) : zaI (zs I J P) 1 119 (nI k) = some (I 119 k) := zai zl_119 (by decide) hk
theorem wi_119 (hk : k < 1024) : zwI (zs I J P) 1 119 (nI k) v = some (zs (zup I 119 k v) J P) := zwi zl_119 (by decide) hk
theorem ai_120 (hk : k < 1024) : zaI (zs I J P) 1 120 (nI k) = some (I 120 k) := zai zl_120 (by decide) hk
theorem wi_120 (hk : k < 1024) : zwI (zs I J P) 1 120 (nI k) v = some (zs (zup I 120 k v) J P) := zwi zl_120 (by decide) hk
theorem ai_121 (hk : k < 96) : zaI (zs I J P) 1 121 (nI k) = some (I 121 k) := zai zl_121 (by decide) hk
theorem wi_121 (hk : k < 96) : zwI (zs I J P) 1 121 (nI k) v = some (zs (zup I 121 k v) J P) := zwi zl_121 (by decide) hk
theorem aj_122 (hk : k < 625) : zaJ (zs I J P) 122 (nI k) = some (J 122 k) := zaj zl_122 (by decide) hk
theorem wj_122 (hk : k < 625) : zwJ (zs I J P) 122 (nI k) w = some (zs I (zup J 122 k w) P) := zwj zl_122 (by decide) hk
theorem ai_123 (hk : k < 625) : zaI (zs I J P) 3 123 (nI k) = some (I 123 k) := zai zl_123 (by decide) hk
theorem wi_123 (hk : k < 625) : zwI (zs I J P) 3 123 (nI k) v = some (zs (zup I 123 k (vp_nar .boolean v)) J P) := zwi3 zl_123 (by decide) hk
theorem ai_124 (hk : k < 10) : zaI (zs I J P) 1 124 (nI k) = some (I 124 k) := zai zl_124 (by decide) hk
theorem wi_124 (hk : k < 10) : zwI (zs I J P) 1 124 (nI k) v = some (zs (zup I 124 k v) J P) := zwi zl_124 (by decide) hk
theorem ai_125 (hk : k < 10) : zaI (zs I J P) 1 125 (nI k) = some (I 125 k) := zai zl_125 (by decide) hk
theorem wi_125 (hk : k < 10) : zwI (zs I J P) 1 125 (nI k) v = some (zs (zup I 125 k v) J P) := zwi zl_125 (by decide) hk
theorem ai_126 (hk : k < 30) : zaI (zs I J P) 1 126 (nI k) = some (I 126 k) := zai zl_126 (by decide) hk
theorem wi_126 (hk : k < 30) : zwI (zs I J P) 1 126 (nI k) v = some (zs (zup I 126 k v) J P) := zwi zl_126 (by decide) hk
theorem ai_127 (hk : k < 30) : zaI (zs I J P) 1 127 (nI k) = some (I 127 k) := zai zl_127 (by decide) hk
theorem wi_127 (hk : k < 30) : zwI (zs I J P) 1 127 (nI k) v = some (zs (zup I 127 k v) J P) := zwi zl_127 (by decide) hk
theorem ai_128 (hk : k < 30) : zaI (zs I J P) 1 128 (nI k) = some (I 128 k) := zai zl_128 (by decide) hk
theorem wi_128 (hk : k < 30) : zwI (zs I J P) 1 128 (nI k) v = some (zs (zup I 128 k v) J P) := zwi zl_128 (by decide) hk
theorem ai_129 (hk : k < 30) : zaI (zs I J P) 1 129 (nI k) = some (I 129 k) := zai zl_129 (by decide) hk
theorem wi_129 (hk : k < 30) : zwI (zs I J P) 1 129 (nI k) v = some (zs (zup I 129 k v) J P) := zwi zl_129 (by decide) hk
theorem ai_130 (hk : k < 30) : zaI (zs I J P) 1 130 (nI k) = some (I 130 k) := zai zl_130 (by decide) hk
theorem wi_130 (hk : k < 30) : zwI (zs I J P) 1 130 (nI k) v = some (zs (zup I 130 k v) J P) := zwi zl_130 (by decide) hk
theorem ai_131 (hk : k < 100) : zaI (zs I J P) 1 131 (nI k) = some (I 131 k) := zai zl_131 (by decide) hk
theorem wi_131 (hk : k < 100) : zwI (zs I J P) 1 131 (nI k) v = some (zs (zup I 131 k v) J P) := zwi zl_131 (by decide) hk
theorem ai_132 (hk : k < 3) : zaI (zs I J P) 3 132 (nI k) = some (I 132 k) := zai zl_132 (by decide) hk
theorem wi_132 (hk : k < 3) : zwI (zs I J P) 3 132 (nI k) v = some (zs (zup I 132 k (vp_nar .boolean v)) J P) := zwi3 zl_132 (by decide) hk
theorem ai_133 (hk : k < 288) : zaI (zs I J P) 1 133 (nI k) = some (I 133 k) := zai zl_133 (by decide) hk
theorem wi_133 (hk : k < 288) : zwI (zs I J P) 1 133 (nI k) v = some (zs (zup I 133 k v) J P) := zwi zl_133 (by decide) hk
theorem gp_11_0 : zgP (zs I J (zPt t u i f s x)) 11 0 0 = some 1 := zs_gP zl_0
theorem gp_11_2 : zgP (zs I J (zPt t u i f s x)) 11 0 2 = some t := zs_gP zl_0
theorem gp_11_3 : zgP (zs I J (zPt t u i f s x)) 11 0 3 = some u := zs_gP zl_0
theorem gp_11_4 : zgP (zs I J (zPt t u i f s x)) 11 0 4 = some 24 := zs_gP zl_0
theorem gp_11_5 : zgP (zs I J (zPt t u i f s x)) 11 0 5 = some 30 := zs_gP zl_0
theorem gp_11_6 : zgP (zs I J (zPt t u i f s x)) 11 0 6 = some 35 := zs_gP zl_0
theorem gp_11_7 : zgP (zs I J (zPt t u i f s x)) 11 0 7 = some 40 := zs_gP zl_0
theorem gp_11_8 : zgP (zs I J (zPt t u i f s x)) 11 0 8 = some 41 := zs_gP zl_0
theorem gp_11_9 : zgP (zs I J (zPt t u i f s x)) 11 0 9 = some 47 := zs_gP zl_0
theorem gp_11_10 : zgP (zs I J (zPt t u i f s x)) 11 0 10 = some 52 := zs_gP zl_0
theorem gp_11_11 : zgP (zs I J (zPt t u i f s x)) 11 0 11 = some 56 := zs_gP zl_0
theorem gp_11_12 : zgP (zs I J (zPt t u i f s x)) 11 0 12 = some 60 := zs_gP zl_0
theorem gp_11_13 : zgP (zs I J (zPt t u i f s x)) 11 0 13 = some 64 := zs_gP zl_0
theorem gp_11_14 : zgP (zs I J (zPt t u i f s x)) 11 0 14 = some 68 := zs_gP zl_0
theorem gp_11_15 : zgP (zs I J (zPt t u i f s x)) 11 0 15 = some 74 := zs_gP zl_0
theorem gp_11_17 : zgP (zs I J (zPt t u i f s x)) 11 0 17 = some 75 := zs_gP zl_0
theorem gp_9_2 : zgP (zs I J (zPt t u i f s x)) 9 24 2 = some 25 := zs_gP zl_24
theorem gp_9_3 : zgP (zs I J (zPt t u i f s x)) 9 24 3 = some 27 := zs_gP zl_24
theorem gp_9_4 : zgP (zs I J (zPt t u i f s x)) 9 24 4 = some 28 := zs_gP zl_24
theorem gp_9_5 : zgP (zs I J (zPt t u i f s x)) 9 24 5 = some 29 := zs_gP zl_24
theorem gp_9_6 : zgP (zs I J (zPt t u i f s x)) 9 24 6 = some i := zs_gP zl_24
theorem gp_9_7 : zgP (zs I J (zPt t u i f s x)) 9 24 7 = some f := zs_gP zl_24
theorem gp_7_4 : zgP (zs I J (zPt t u i f s x)) 7 25 4 = some x := zs_gP zl_25
theorem gp_0_3 : zgP (zs I J (zPt t u i f s x)) 0 41 3 = some 42 := zs_gP zl_41
theorem gp_0_4 : zgP (zs I J (zPt t u i f s x)) 0 41 4 = some 43 := zs_gP zl_41
theorem gp_0_5 : zgP (zs I J (zPt t u i f s x)) 0 41 5 = some 44 := zs_gP zl_41
theorem gp_0_6 : zgP (zs I J (zPt t u i f s x)) 0 41 6 = some 45 := zs_gP zl_41
theorem gp_0_7 : zgP (zs I J (zPt t u i f s x)) 0 41 7 = some 46 := zs_gP zl_41
theorem gp_8_0 : zgP (zs I J (zPt t u i f s x)) 8 47 0 = some s := zs_gP zl_47
theorem gp_8_3 : zgP (zs I J (zPt t u i f s x)) 8 47 3 = some 48 := zs_gP zl_47
theorem gp_8_4 : zgP (zs I J (zPt t u i f s x)) 8 47 4 = some 49 := zs_gP zl_47
theorem gp_8_5 : zgP (zs I J (zPt t u i f s x)) 8 47 5 = some 50 := zs_gP zl_47
theorem gp_8_6 : zgP (zs I J (zPt t u i f s x)) 8 47 6 = some 51 := zs_gP zl_47
theorem gp_5_0 : zgP (zs I J (zPt t u i f s x)) 5 60 0 = some 61 := zs_gP zl_60
theorem gp_5_1 : zgP (zs I J (zPt t u i f s x)) 5 60 1 = some 62 := zs_gP zl_60
theorem gp_5_2 : zgP (zs I J (zPt t u i f s x)) 5 60 2 = some 63 := zs_gP zl_60
theorem gp_1_0 : zgP (zs I J (zPt t u i f s x)) 1 64 0 = some 65 := zs_gP zl_64
theorem gp_1_1 : zgP (zs I J (zPt t u i f s x)) 1 64 1 = some 66 := zs_gP zl_64
theorem gp_1_2 : zgP (zs I J (zPt t u i f s x)) 1 64 2 = some 67 := zs_gP zl_64
theorem gp_3_2 : zgP (zs I J (zPt t u i f s x)) 3 68 2 = some 69 := zs_gP zl_68
theorem gp_3_3 : zgP (zs I J (zPt t u i f s x)) 3 68 3 = some 70 := zs_gP zl_68
theorem gp_3_4 : zgP (zs I J (zPt t u i f s x)) 3 68 4 = some 71 := zs_gP zl_68
theorem gp_3_5 : zgP (zs I J (zPt t u i f s x)) 3 68 5 = some 72 := zs_gP zl_68
theorem gp_3_6 : zgP (zs I J (zPt t u i f s x)) 3 68 6 = some 73 := zs_gP zl_68
theorem gp_12_0 : zgP (zs I J (zPt t u i f s x)) 12 91 0 = some 92 := zs_gP zl_91
theorem gp_12_10 : zgP (zs I J (zPt t u i f s x)) 12 91 10 = some 93 := zs_gP zl_91
theorem gp_12_11 : zgP (zs I J (zPt t u i f s x)) 12 91 11 = some 94 := zs_gP zl_91
theorem gp_12_12 : zgP (zs I J (zPt t u i f s x)) 12 91 12 = some 95 := zs_gP zl_91
theorem gp_12_13 : zgP (zs I J (zPt t u i f s x)) 12 91 13 = some 96 := zs_gP zl_91
theorem gp_12_14 : zgP (zs I J (zPt t u i f s x)) 12 91 14 = some 97 := zs_gP zl_91
theorem gp_12_15 : zgP (zs I J (zPt t u i f s x)) 12 91 15 = some 98 := zs_gP zl_91
theorem gp_12_16 : zgP (zs I J (zPt t u i f s x)) 12 91 16 = some 99 := zs_gP zl_91
theorem gp_12_17 : zgP (zs I J (zPt t u i f s x)) 12 91 17 = some 100 := zs_gP zl_91
theorem gp_12_18 : zgP (zs I J (zPt t u i f s x)) 12 91 18 = some 101 := zs_gP zl_91
theorem gp_12_25 : zgP (zs I J (zPt t u i f s x)) 12 91 25 = some 102 := zs_gP zl_91
theorem gp_12_26 : zgP (zs I J (zPt t u i f s x)) 12 91 26 = some 103 := zs_gP zl_91
theorem gp_12_27 : zgP (zs I J (zPt t u i f s x)) 12 91 27 = some 104 := zs_gP zl_91
theorem gp_12_28 : zgP (zs I J (zPt t u i f s x)) 12 91 28 = some 105 := zs_gP zl_91
theorem gp_12_29 : zgP (zs I J (zPt t u i f s x)) 12 91 29 = some 106 := zs_gP zl_91
theorem gp_12_30 : zgP (zs I J (zPt t u i f s x)) 12 91 30 = some 107 := zs_gP zl_91
theorem gp_12_31 : zgP (zs I J (zPt t u i f s x)) 12 91 31 = some 108 := zs_gP zl_91
theorem gp_12_32 : zgP (zs I J (zPt t u i f s x)) 12 91 32 = some 109 := zs_gP zl_91
theorem gp_12_33 : zgP (zs I J (zPt t u i f s x)) 12 91 33 = some 110 := zs_gP zl_91
theorem gp_12_49 : zgP (zs I J (zPt t u i f s x)) 12 91 49 = some 111 := zs_gP zl_91
theorem gp_12_50 : zgP (zs I J (zPt t u i f s x)) 12 91 50 = some 112 := zs_gP zl_91
theorem gp_12_51 : zgP (zs I J (zPt t u i f s x)) 12 91 51 = some 113 := zs_gP zl_91
theorem gp_12_52 : zgP (zs I J (zPt t u i f s x)) 12 91 52 = some 114 := zs_gP zl_91
theorem gp_12_53 : zgP (zs I J (zPt t u i f s x)) 12 91 53 = some 115 := zs_gP zl_91
theorem gp_12_55 : zgP (zs I J (zPt t u i f s x)) 12 91 55 = some 116 := zs_gP zl_91
theorem gp_12_58 : zgP (zs I J (zPt t u i f s x)) 12 91 58 = some 117 := zs_gP zl_91
theorem gp_12_60 : zgP (zs I J (zPt t u i f s x)) 12 91 60 = some 118 := zs_gP zl_91
theorem gp_12_61 : zgP (zs I J (zPt t u i f s x)) 12 91 61 = some 119 := zs_gP zl_91
theorem gp_12_62 : zgP (zs I J (zPt t u i f s x)) 12 91 62 = some 120 := zs_gP zl_91
theorem gp_12_63 : zgP (zs I J (zPt t u i f s x)) 12 91 63 = some 121 := zs_gP zl_91
theorem gp_12_64 : zgP (zs I J (zPt t u i f s x)) 12 91 64 = some 122 := zs_gP zl_91
theorem gp_12_65 : zgP (zs I J (zPt t u i f s x)) 12 91 65 = some 123 := zs_gP zl_91
theorem gp_12_70 : zgP (zs I J (zPt t u i f s x)) 12 91 70 = some 124 := zs_gP zl_91
theorem gp_12_72 : zgP (zs I J (zPt t u i f s x)) 12 91 72 = some 125 := zs_gP zl_91
theorem gp_12_73 : zgP (zs I J (zPt t u i f s x)) 12 91 73 = some 126 := zs_gP zl_91
theorem gp_12_74 : zgP (zs I J (zPt t u i f s x)) 12 91 74 = some 127 := zs_gP zl_91
theorem gp_12_75 : zgP (zs I J (zPt t u i f s x)) 12 91 75 = some 128 := zs_gP zl_91
theorem gp_12_76 : zgP (zs I J (zPt t u i f s x)) 12 91 76 = some 129 := zs_gP zl_91
theorem gp_12_77 : zgP (zs I J (zPt t u i f s x)) 12 91 77 = some 130 := zs_gP zl_91
theorem gp_12_80 : zgP (zs I J (zPt t u i f s x)) 12 91 80 = some 131 := zs_gP zl_91
theorem gp_12_81 : zgP (zs I J (zPt t u i f s x)) 12 91 81 = some 132 := zs_gP zl_91
theorem gp_12_82 : zgP (zs I J (zPt t u i f s x)) 12 91 82 = some 133 := zs_gP zl_91
theorem zg_2 {α : Type} {q : Option α} (h : A = 7 ∨ A = 10 ∨ A = 18 ∨ A = 21) : zg (zs I J P) 2 A q = q := by
  rcases h with rfl | rfl | rfl | rfl
  · exact zs_g zl_7
  · exact zs_g zl_10
  · exact zs_g zl_18
  · exact zs_g zl_21
theorem gi_2 (h : A = 7 ∨ A = 10 ∨ A = 18 ∨ A = 21) : zgI (zs I J P) 2 A k = some (I A k) := by
  rcases h with rfl | rfl | rfl | rfl
  · exact zs_gI zl_7
  · exact zs_gI zl_10
  · exact zs_gI zl_18
  · exact zs_gI zl_21
theorem si_2 (h : A = 7 ∨ A = 10 ∨ A = 18 ∨ A = 21) : zsI (zs I J P) 2 A k v = some (zs (zup I A k v) J P) := by
  rcases h with rfl | rfl | rfl | rfl
  · exact zs_sI zl_7
  · exact zs_sI zl_10
  · exact zs_sI zl_18
  · exact zs_sI zl_21
theorem gp_2_0 (h : A = 7 ∨ A = 10 ∨ A = 18 ∨ A = 21) : zgP (zs I J (zPt t u i f s x)) 2 A 0 = some (A + 1) := by
  rcases h with rfl | rfl | rfl | rfl
  · exact zs_gP zl_7
  · exact zs_gP zl_10
  · exact zs_gP zl_18
  · exact zs_gP zl_21
theorem ai_2_0 (h : A = 7 ∨ A = 10 ∨ A = 18 ∨ A = 21) (hk : k < 270) : zaI (zs I J P) 1 (A + 1) (nI k) = some (I (A + 1) k) := by
  rcases h with rfl | rfl | rfl | rfl
  · exact zai zl_8 (by decide) hk
  · exact zai zl_11 (by decide) hk
  · exact zai zl_19 (by decide) hk
  · exact zai zl_22 (by decide) hk
theorem wi_2_0 (h : A = 7 ∨ A = 10 ∨ A = 18 ∨ A = 21) (hk : k < 270) : zwI (zs I J P) 1 (A + 1) (nI k) v = some (zs (zup I (A + 1) k v) J P) := by
  rcases h with rfl | rfl | rfl | rfl
  · exact zwi zl_8 (by decide) hk
  · exact zwi zl_11 (by decide) hk
  · exact zwi zl_19 (by decide) hk
  · exact zwi zl_22 (by decide) hk
theorem gp_2_1 (h : A = 7 ∨ A = 10 ∨ A = 18 ∨ A = 21) : zgP (zs I J (zPt t u i f s x)) 2 A 1 = some (A + 2) := by
  rcases h with rfl | rfl | rfl | rfl
  · exact zs_gP zl_7
  · exact zs_gP zl_10
  · exact zs_gP zl_18
  · exact zs_gP zl_21
theorem ai_2_1 (h : A = 7 ∨ A = 10 ∨ A = 18 ∨ A = 21) (hk : k < 30) : zaI (zs I J P) 1 (A + 2) (nI k) = some (I (A + 2) k) := by
  rcases h with rfl | rfl | rfl | rfl
  · exact zai zl_9 (by decide) hk
  · exact zai zl_12 (by decide) hk
  · exact zai zl_20 (by decide) hk
  · exact zai zl_23 (by decide) hk
theorem wi_2_1 (h : A = 7 ∨ A = 10 ∨ A = 18 ∨ A = 21) (hk : k < 30) : zwI (zs I J P) 1 (A + 2) (nI k) v = some (zs (zup I (A + 2) k v) J P) := by
  rcases h with rfl | rfl | rfl | rfl
  · exact zwi zl_9 (by decide) hk
  · exact zwi zl_12 (by decide) hk
  · exact zwi zl_20 (by decide) hk
  · exact zwi zl_23 (by decide) hk
theorem zg_4 {α : Type} {q : Option α} (h : A = 30 ∨ A = 35 ∨ A = 76 ∨ A = 81 ∨ A = 86) : zg (zs I J P) 4 A q = q := by
  rcases h with rfl | rfl | rfl | rfl | rfl
  · exact zs_g zl_30
  · exact zs_g zl_35
  · exact zs_g zl_76
  · exact zs_g zl_81
  · exact zs_g zl_86
theorem gi_4 (h : A = 30 ∨ A = 35 ∨ A = 76 ∨ A = 81 ∨ A = 86) : zgI (zs I J P) 4 A k = some (I A k) := by
  rcases h with rfl | rfl | rfl | rfl | rfl
  · exact zs_gI zl_30
  · exact zs_gI zl_35
  · exact zs_gI zl_76
  · exact zs_gI zl_81
  · exact zs_gI zl_86
theorem si_4 (h : A = 30 ∨ A = 35 ∨ A = 76 ∨ A = 81 ∨ A = 86) : zsI (zs I J P) 4 A k v = some (zs (zup I A k v) J P) := by
  rcases h with rfl | rfl | rfl | rfl | rfl
  · exact zs_sI zl_30
  · exact zs_sI zl_35
  · exact zs_sI zl_76
  · exact zs_sI zl_81
  · exact zs_sI zl_86
theorem gp_4_0 (h : A = 30 ∨ A = 35 ∨ A = 76 ∨ A = 81 ∨ A = 86) : zgP (zs I J (zPt t u i f s x)) 4 A 0 = some (A + 1) := by
  rcases h with rfl | rfl | rfl | rfl | rfl
  · exact zs_gP zl_30
  · exact zs_gP zl_35
  · exact zs_gP zl_76
  · exact zs_gP zl_81
  · exact zs_gP zl_86
theorem ai_4_0 (h : A = 30 ∨ A = 35 ∨ A = 76 ∨ A = 81 ∨ A = 86) (hk : k < 24) : zaI (zs I J P) 1 (A + 1) (nI k) = some (I (A + 1) k) := by
  rcases h with rfl | rfl | rfl | rfl | rfl
  · exact zai zl_31 (by decide) hk
  · exact zai zl_36 (by decide) hk
  · exact zai zl_77 (by decide) hk
  · exact zai zl_82 (by decide) hk
  · exact zai zl_87 (by decide) hk
theorem wi_4_0 (h : A = 30 ∨ A = 35 ∨ A = 76 ∨ A = 81 ∨ A = 86) (hk : k < 24) : zwI (zs I J P) 1 (A + 1) (nI k) v = some (zs (zup I (A + 1) k v) J P) := by
  rcases h with rfl | rfl | rfl | rfl | rfl
  · exact zwi zl_31 (by decide) hk
  · exact zwi zl_36 (by decide) hk
  · exact zwi zl_77 (by decide) hk
  · exact zwi zl_82 (by decide) hk
  · exact zwi zl_87 (by decide) hk
theorem gp_4_1 (h : A = 30 ∨ A = 35 ∨ A = 76 ∨ A = 81 ∨ A = 86) : zgP (zs I J (zPt t u i f s x)) 4 A 1 = some (A + 2) := by
  rcases h with rfl | rfl | rfl | rfl | rfl
  · exact zs_gP zl_30
  · exact zs_gP zl_35
  · exact zs_gP zl_76
  · exact zs_gP zl_81
  · exact zs_gP zl_86
theorem ai_4_1 (h : A = 30 ∨ A = 35 ∨ A = 76 ∨ A = 81 ∨ A = 86) (hk : k < 6) : zaI (zs I J P) 1 (A + 2) (nI k) = some (I (A + 2) k) := by
  rcases h with rfl | rfl | rfl | rfl | rfl
  · exact zai zl_32 (by decide) hk
  · exact zai zl_37 (by decide) hk
  · exact zai zl_78 (by decide) hk
  · exact zai zl_83 (by decide) hk
  · exact zai zl_88 (by decide) hk
theorem wi_4_1 (h : A = 30 ∨ A = 35 ∨ A = 76 ∨ A = 81 ∨ A = 86) (hk : k < 6) : zwI (zs I J P) 1 (A + 2) (nI k) v = some (zs (zup I (A + 2) k v) J P) := by
  rcases h with rfl | rfl | rfl | rfl | rfl
  · exact zwi zl_32 (by decide) hk
  · exact zwi zl_37 (by decide) hk
  · exact zwi zl_78 (by decide) hk
  · exact zwi zl_83 (by decide) hk
  · exact zwi zl_88 (by decide) hk
theorem gp_4_2 (h : A = 30 ∨ A = 35 ∨ A = 76 ∨ A = 81 ∨ A = 86) : zgP (zs I J (zPt t u i f s x)) 4 A 2 = some (A + 3) := by
  rcases h with rfl | rfl | rfl | rfl | rfl
  · exact zs_gP zl_30
  · exact zs_gP zl_35
  · exact zs_gP zl_76
  · exact zs_gP zl_81
  · exact zs_gP zl_86
theorem ai_4_2 (h : A = 30 ∨ A = 35 ∨ A = 76 ∨ A = 81 ∨ A = 86) (hk : k < 60) : zaI (zs I J P) 1 (A + 3) (nI k) = some (I (A + 3) k) := by
  rcases h with rfl | rfl | rfl | rfl | rfl
  · exact zai zl_33 (by decide) hk
  · exact zai zl_38 (by decide) hk
  · exact zai zl_79 (by decide) hk
  · exact zai zl_84 (by decide) hk
  · exact zai zl_89 (by decide) hk
theorem wi_4_2 (h : A = 30 ∨ A = 35 ∨ A = 76 ∨ A = 81 ∨ A = 86) (hk : k < 60) : zwI (zs I J P) 1 (A + 3) (nI k) v = some (zs (zup I (A + 3) k v) J P) := by
  rcases h with rfl | rfl | rfl | rfl | rfl
  · exact zwi zl_33 (by decide) hk
  · exact zwi zl_38 (by decide) hk
  · exact zwi zl_79 (by decide) hk
  · exact zwi zl_84 (by decide) hk
  · exact zwi zl_89 (by decide) hk
theorem gp_4_6 (h : A = 30 ∨ A = 35 ∨ A = 76 ∨ A = 81 ∨ A = 86) : zgP (zs I J (zPt t u i f s x)) 4 A 6 = some (A + 4) := by
  rcases h with rfl | rfl | rfl | rfl | rfl
  · exact zs_gP zl_30
  · exact zs_gP zl_35
  · exact zs_gP zl_76
  · exact zs_gP zl_81
  · exact zs_gP zl_86
theorem ai_4_6 (h : A = 30 ∨ A = 35 ∨ A = 76 ∨ A = 81 ∨ A = 86) (hk : k < 6) : zaI (zs I J P) 1 (A + 4) (nI k) = some (I (A + 4) k) := by
  rcases h with rfl | rfl | rfl | rfl | rfl
  · exact zai zl_34 (by decide) hk
  · exact zai zl_39 (by decide) hk
  · exact zai zl_80 (by decide) hk
  · exact zai zl_85 (by decide) hk
  · exact zai zl_90 (by decide) hk
theorem wi_4_6 (h : A = 30 ∨ A = 35 ∨ A = 76 ∨ A = 81 ∨ A = 86) (hk : k < 6) : zwI (zs I J P) 1 (A + 4) (nI k) v = some (zs (zup I (A + 4) k v) J P) := by
  rcases h with rfl | rfl | rfl | rfl | rfl
  · exact zwi zl_34 (by decide) hk
  · exact zwi zl_39 (by decide) hk
  · exact zwi zl_80 (by decide) hk
  · exact zwi zl_85 (by decide) hk
  · exact zwi zl_90 (by decide) hk
theorem zg_6 {α : Type} {q : Option α} (h : A = 52 ∨ A = 56) : zg (zs I J P) 6 A q = q := by
  rcases h with rfl | rfl
  · exact zs_g zl_52
  · exact zs_g zl_56
theorem gi_6 (h : A = 52 ∨ A = 56) : zgI (zs I J P) 6 A k = some (I A k) := by
  rcases h with rfl | rfl
  · exact zs_gI zl_52
  · exact zs_gI zl_56
theorem si_6 (h : A = 52 ∨ A = 56) : zsI (zs I J P) 6 A k v = some (zs (zup I A k v) J P) := by
  rcases h with rfl | rfl
  · exact zs_sI zl_52
  · exact zs_sI zl_56
theorem gp_6_5 (h : A = 52 ∨ A = 56) : zgP (zs I J (zPt t u i f s x)) 6 A 5 = some (A + 1) := by
  rcases h with rfl | rfl
  · exact zs_gP zl_52
  · exact zs_gP zl_56
theorem ai_6_5 (h : A = 52 ∨ A = 56) (hk : k < 2500) : zaI (zs I J P) 1 (A + 1) (nI k) = some (I (A + 1) k) := by
  rcases h with rfl | rfl
  · exact zai zl_53 (by decide) hk
  · exact zai zl_57 (by decide) hk
theorem wi_6_5 (h : A = 52 ∨ A = 56) (hk : k < 2500) : zwI (zs I J P) 1 (A + 1) (nI k) v = some (zs (zup I (A + 1) k v) J P) := by
  rcases h with rfl | rfl
  · exact zwi zl_53 (by decide) hk
  · exact zwi zl_57 (by decide) hk
theorem gp_6_6 (h : A = 52 ∨ A = 56) : zgP (zs I J (zPt t u i f s x)) 6 A 6 = some (A + 2) := by
  rcases h with rfl | rfl
  · exact zs_gP zl_52
  · exact zs_gP zl_56
theorem ai_6_6 (h : A = 52 ∨ A = 56) (hk : k < 6250) : zaI (zs I J P) 1 (A + 2) (nI k) = some (I (A + 2) k) := by
  rcases h with rfl | rfl
  · exact zai zl_54 (by decide) hk
  · exact zai zl_58 (by decide) hk
theorem wi_6_6 (h : A = 52 ∨ A = 56) (hk : k < 6250) : zwI (zs I J P) 1 (A + 2) (nI k) v = some (zs (zup I (A + 2) k v) J P) := by
  rcases h with rfl | rfl
  · exact zwi zl_54 (by decide) hk
  · exact zwi zl_58 (by decide) hk
theorem gp_6_7 (h : A = 52 ∨ A = 56) : zgP (zs I J (zPt t u i f s x)) 6 A 7 = some (A + 3) := by
  rcases h with rfl | rfl
  · exact zs_gP zl_52
  · exact zs_gP zl_56
theorem ai_6_7 (h : A = 52 ∨ A = 56) (hk : k < 625) : zaI (zs I J P) 1 (A + 3) (nI k) = some (I (A + 3) k) := by
  rcases h with rfl | rfl
  · exact zai zl_55 (by decide) hk
  · exact zai zl_59 (by decide) hk
theorem wi_6_7 (h : A = 52 ∨ A = 56) (hk : k < 625) : zwI (zs I J P) 1 (A + 3) (nI k) v = some (zs (zup I (A + 3) k v) J P) := by
  rcases h with rfl | rfl
  · exact zwi zl_55 (by decide) hk
  · exact zwi zl_59 (by decide) hk
theorem zg_10 {α : Type} {q : Option α} (h : A = 2 ∨ A = 13) : zg (zs I J P) 10 A q = q := by
  rcases h with rfl | rfl
  · exact zs_g zl_2
  · exact zs_g zl_13
theorem gi_10 (h : A = 2 ∨ A = 13) : zgI (zs I J P) 10 A k = some (I A k) := by
  rcases h with rfl | rfl
  · exact zs_gI zl_2
  · exact zs_gI zl_13
theorem si_10 (h : A = 2 ∨ A = 13) : zsI (zs I J P) 10 A k v = some (zs (zup I A k v) J P) := by
  rcases h with rfl | rfl
  · exact zs_sI zl_2
  · exact zs_sI zl_13
theorem gp_10_7 (h : A = 2 ∨ A = 13) : zgP (zs I J (zPt t u i f s x)) 10 A 7 = some (A + 1) := by
  rcases h with rfl | rfl
  · exact zs_gP zl_2
  · exact zs_gP zl_13
theorem ai_10_7 (h : A = 2 ∨ A = 13) (hk : k < 40) : zaI (zs I J P) 1 (A + 1) (nI k) = some (I (A + 1) k) := by
  rcases h with rfl | rfl
  · exact zai zl_3 (by decide) hk
  · exact zai zl_14 (by decide) hk
theorem wi_10_7 (h : A = 2 ∨ A = 13) (hk : k < 40) : zwI (zs I J P) 1 (A + 1) (nI k) v = some (zs (zup I (A + 1) k v) J P) := by
  rcases h with rfl | rfl
  · exact zwi zl_3 (by decide) hk
  · exact zwi zl_14 (by decide) hk
theorem gp_10_8 (h : A = 2 ∨ A = 13) : zgP (zs I J (zPt t u i f s x)) 10 A 8 = some (A + 2) := by
  rcases h with rfl | rfl
  · exact zs_gP zl_2
  · exact zs_gP zl_13
theorem ai_10_8 (h : A = 2 ∨ A = 13) (hk : k < 24) : zaI (zs I J P) 1 (A + 2) (nI k) = some (I (A + 2) k) := by
  rcases h with rfl | rfl
  · exact zai zl_4 (by decide) hk
  · exact zai zl_15 (by decide) hk
theorem wi_10_8 (h : A = 2 ∨ A = 13) (hk : k < 24) : zwI (zs I J P) 1 (A + 2) (nI k) v = some (zs (zup I (A + 2) k v) J P) := by
  rcases h with rfl | rfl
  · exact zwi zl_4 (by decide) hk
  · exact zwi zl_15 (by decide) hk
theorem gp_10_9 (h : A = 2 ∨ A = 13) : zgP (zs I J (zPt t u i f s x)) 10 A 9 = some (A + 3) := by
  rcases h with rfl | rfl
  · exact zs_gP zl_2
  · exact zs_gP zl_13
theorem ai_10_9 (h : A = 2 ∨ A = 13) (hk : k < 24) : zaI (zs I J P) 1 (A + 3) (nI k) = some (I (A + 3) k) := by
  rcases h with rfl | rfl
  · exact zai zl_5 (by decide) hk
  · exact zai zl_16 (by decide) hk
theorem wi_10_9 (h : A = 2 ∨ A = 13) (hk : k < 24) : zwI (zs I J P) 1 (A + 3) (nI k) v = some (zs (zup I (A + 3) k v) J P) := by
  rcases h with rfl | rfl
  · exact zwi zl_5 (by decide) hk
  · exact zwi zl_16 (by decide) hk
theorem gp_10_10 (h : A = 2 ∨ A = 13) : zgP (zs I J (zPt t u i f s x)) 10 A 10 = some (A + 4) := by
  rcases h with rfl | rfl
  · exact zs_gP zl_2
  · exact zs_gP zl_13
theorem ai_10_10 (h : A = 2 ∨ A = 13) (hk : k < 6) : zaI (zs I J P) 1 (A + 4) (nI k) = some (I (A + 4) k) := by
  rcases h with rfl | rfl
  · exact zai zl_6 (by decide) hk
  · exact zai zl_17 (by decide) hk
theorem wi_10_10 (h : A = 2 ∨ A = 13) (hk : k < 6) : zwI (zs I J P) 1 (A + 4) (nI k) v = some (zs (zup I (A + 4) k v) J P) := by
  rcases h with rfl | rfl
  · exact zwi zl_6 (by decide) hk
  · exact zwi zl_17 (by decide) hk
theorem gp_10_11 (h : A = 2 ∨ A = 13) : zgP (zs I J (zPt t u i f s x)) 10 A 11 = some (A + 5) := by
  rcases h with rfl | rfl
  · exact zs_gP zl_2
  · exact zs_gP zl_13
theorem gp_10_12 (h : A = 2 ∨ A = 13) : zgP (zs I J (zPt t u i f s x)) 10 A 12 = some (A + 8) := by
  rcases h with rfl | rfl
  · exact zs_gP zl_2
  · exact zs_gP zl_13
theorem zup_at {α : Type} (g : Nat → Nat → α) (a k j : Nat) (y : α) : zup g a k y a j = if j = k then y else g a j := by simp [zup, zro, va_up]
theorem zup_k {α : Type} (g : Nat → Nat → α) {a k j : Nat} (y : α) (h : j ≠ k) : zup g a k y a j = g a j := by simp [zup, zro, va_up, h]
theorem zup_s {α : Type} (g : Nat → Nat → α) (a k : Nat) (y : α) : zup g a k y a k = y := by simp [zup, zro, va_up]
end ZB

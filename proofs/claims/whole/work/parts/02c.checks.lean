/-! the checks, by the kernel -/
theorem z_wk_0 : (List.range 20).all (fun j => z_wdM (j + 0) && z_hd (j + 0)) = true := by decide +kernel
theorem z_wk_20 : (List.range 20).all (fun j => z_wdM (j + 20) && z_hd (j + 20)) = true := by decide +kernel
theorem z_wk_40 : (List.range 20).all (fun j => z_wdM (j + 40) && z_hd (j + 40)) = true := by decide +kernel
theorem z_wk_60 : (List.range 20).all (fun j => z_wdM (j + 60) && z_hd (j + 60)) = true := by decide +kernel
theorem z_wk_80 : (List.range 20).all (fun j => z_wdM (j + 80) && z_hd (j + 80)) = true := by decide +kernel
theorem z_wk_100 : (List.range 20).all (fun j => z_wdM (j + 100) && z_hd (j + 100)) = true := by decide +kernel
theorem z_wk_120 : (List.range 20).all (fun j => z_wdM (j + 120) && z_hd (j + 120)) = true := by decide +kernel
theorem z_wk_140 : (List.range 20).all (fun j => z_wdM (j + 140) && z_hd (j + 140)) = true := by decide +kernel
theorem z_wk_160 : (List.range 20).all (fun j => z_wdM (j + 160) && z_hd (j + 160)) = true := by decide +kernel
theorem z_wk_180 : (List.range 20).all (fun j => z_wdM (j + 180) && z_hd (j + 180)) = true := by decide +kernel
theorem z_wk_200 : (List.range 20).all (fun j => z_wdM (j + 200) && z_hd (j + 200)) = true := by decide +kernel
theorem z_wk_220 : (List.range 20).all (fun j => z_wdM (j + 220) && z_hd (j + 220)) = true := by decide +kernel
theorem z_wk_240 : (List.range 20).all (fun j => z_wdM (j + 240) && z_hd (j + 240)) = true := by decide +kernel
theorem z_wk_260 : (List.range 20).all (fun j => z_wdM (j + 260) && z_hd (j + 260)) = true := by decide +kernel
theorem z_wk_280 : (List.range 20).all (fun j => z_wdM (j + 280) && z_hd (j + 280)) = true := by decide +kernel
theorem z_wk_300 : (List.range 20).all (fun j => z_wdM (j + 300) && z_hd (j + 300)) = true := by decide +kernel
theorem z_wk_320 : (List.range 20).all (fun j => z_wdM (j + 320) && z_hd (j + 320)) = true := by decide +kernel
theorem z_wk_340 : (List.range 3).all (fun j => z_wdM (j + 340) && z_hd (j + 340)) = true := by decide +kernel
theorem z_ok_0 : (List.range 12).all (fun j => z_okM (j + 0)) = true := by decide +kernel
theorem z_ok_12 : (List.range 6).all (fun j => z_okM (j + 12)) = true := by decide +kernel
theorem z_ok_18 : (List.range 2).all (fun j => z_okM (j + 18)) = true := by decide +kernel
theorem z_ok_20 : (List.range 8).all (fun j => z_okM (j + 20)) = true := by decide +kernel
theorem z_ok_28 : (List.range 10).all (fun j => z_okM (j + 28)) = true := by decide +kernel
theorem z_ok_38 : (List.range 2).all (fun j => z_okM (j + 38)) = true := by decide +kernel
theorem z_ok_40 : (List.range 8).all (fun j => z_okM (j + 40)) = true := by decide +kernel
theorem z_ok_48 : (List.range 6).all (fun j => z_okM (j + 48)) = true := by decide +kernel
theorem z_ok_54 : (List.range 6).all (fun j => z_okM (j + 54)) = true := by decide +kernel
theorem z_ok_60 : (List.range 11).all (fun j => z_okM (j + 60)) = true := by decide +kernel
theorem z_ok_71 : (List.range 9).all (fun j => z_okM (j + 71)) = true := by decide +kernel
theorem z_ok_80 : (List.range 13).all (fun j => z_okM (j + 80)) = true := by decide +kernel
theorem z_ok_93 : (List.range 7).all (fun j => z_okM (j + 93)) = true := by decide +kernel
theorem z_ok_100 : (List.range 10).all (fun j => z_okM (j + 100)) = true := by decide +kernel
theorem z_ok_110 : (List.range 4).all (fun j => z_okM (j + 110)) = true := by decide +kernel
theorem z_ok_114 : (List.range 6).all (fun j => z_okM (j + 114)) = true := by decide +kernel
theorem z_ok_120 : (List.range 13).all (fun j => z_okM (j + 120)) = true := by decide +kernel
theorem z_ok_133 : (List.range 7).all (fun j => z_okM (j + 133)) = true := by decide +kernel
theorem z_ok_140 : (List.range 7).all (fun j => z_okM (j + 140)) = true := by decide +kernel
theorem z_ok_147 : (List.range 6).all (fun j => z_okM (j + 147)) = true := by decide +kernel
theorem z_ok_153 : (List.range 7).all (fun j => z_okM (j + 153)) = true := by decide +kernel
theorem z_ok_160 : (List.range 6).all (fun j => z_okM (j + 160)) = true := by decide +kernel
theorem z_ok_166 : (List.range 10).all (fun j => z_okM (j + 166)) = true := by decide +kernel
theorem z_ok_176 : (List.range 4).all (fun j => z_okM (j + 176)) = true := by decide +kernel
theorem z_ok_180 : (List.range 8).all (fun j => z_okM (j + 180)) = true := by decide +kernel
theorem z_ok_188 : (List.range 7).all (fun j => z_okM (j + 188)) = true := by decide +kernel
theorem z_ok_195 : (List.range 5).all (fun j => z_okM (j + 195)) = true := by decide +kernel
theorem z_ok_200 : (List.range 8).all (fun j => z_okM (j + 200)) = true := by decide +kernel
theorem z_ok_208 : (List.range 10).all (fun j => z_okM (j + 208)) = true := by decide +kernel
theorem z_ok_218 : (List.range 2).all (fun j => z_okM (j + 218)) = true := by decide +kernel
theorem z_ok_220 : (List.range 7).all (fun j => z_okM (j + 220)) = true := by decide +kernel
theorem z_ok_227 : (List.range 9).all (fun j => z_okM (j + 227)) = true := by decide +kernel
theorem z_ok_236 : (List.range 4).all (fun j => z_okM (j + 236)) = true := by decide +kernel
theorem z_ok_240 : (List.range 12).all (fun j => z_okM (j + 240)) = true := by decide +kernel
theorem z_ok_252 : (List.range 8).all (fun j => z_okM (j + 252)) = true := by decide +kernel
theorem z_ok_260 : (List.range 12).all (fun j => z_okM (j + 260)) = true := by decide +kernel
theorem z_ok_272 : (List.range 8).all (fun j => z_okM (j + 272)) = true := by decide +kernel
theorem z_ok_280 : (List.range 20).all (fun j => z_okM (j + 280)) = true := by decide +kernel
theorem z_ok_300 : (List.range 8).all (fun j => z_okM (j + 300)) = true := by decide +kernel
theorem z_ok_308 : (List.range 9).all (fun j => z_okM (j + 308)) = true := by decide +kernel
theorem z_ok_317 : (List.range 3).all (fun j => z_okM (j + 317)) = true := by decide +kernel
theorem z_ok_320 : (List.range 20).all (fun j => z_okM (j + 320)) = true := by decide +kernel
theorem z_ok_340 : (List.range 3).all (fun j => z_okM (j + 340)) = true := by decide +kernel
theorem z_all_at {f : Nat → Bool} {n b k : Nat} (h : (List.range n).all (fun j => f (j + b)) = true) (h1 : b ≤ k) (h2 : k < b + n) : f k = true := by
  have := List.all_eq_true.mp h (k - b) (List.mem_range.mpr (by omega))
  simp only [Nat.sub_add_cancel h1] at this
  exact this
theorem z_wkk : ∀ k, k < z_nm → (z_wdM k && z_hd k) = true := by
  intro k hk
  have hk : k < 343 := hk
  rcases Nat.lt_or_ge k 20 with h | h
  · exact z_all_at (f := fun k => z_wdM k && z_hd k) z_wk_0 (by omega) (by omega)
  rcases Nat.lt_or_ge k 40 with h | h
  · exact z_all_at (f := fun k => z_wdM k && z_hd k) z_wk_20 (by omega) (by omega)
  rcases Nat.lt_or_ge k 60 with h | h
  · exact z_all_at (f := fun k => z_wdM k && z_hd k) z_wk_40 (by omega) (by omega)
  rcases Nat.lt_or_ge k 80 with h | h
  · exact z_all_at (f := fun k => z_wdM k && z_hd k) z_wk_60 (by omega) (by omega)
  rcases Nat.lt_or_ge k 100 with h | h
  · exact z_all_at (f := fun k => z_wdM k && z_hd k) z_wk_80 (by omega) (by omega)
  rcases Nat.lt_or_ge k 120 with h | h
  · exact z_all_at (f := fun k => z_wdM k && z_hd k) z_wk_100 (by omega) (by omega)
  rcases Nat.lt_or_ge k 140 with h | h
  · exact z_all_at (f := fun k => z_wdM k && z_hd k) z_wk_120 (by omega) (by omega)
  rcases Nat.lt_or_ge k 160 with h | h
  · exact z_all_at (f := fun k => z_wdM k && z_hd k) z_wk_140 (by omega) (by omega)
  rcases Nat.lt_or_ge k 180 with h | h
  · exact z_all_at (f := fun k => z_wdM k && z_hd k) z_wk_160 (by omega) (by omega)
  rcases Nat.lt_or_ge k 200 with h | h
  · exact z_all_at (f := fun k => z_wdM k && z_hd k) z_wk_180 (by omega) (by omega)
  rcases Nat.lt_or_ge k 220 with h | h
  · exact z_all_at (f := fun k => z_wdM k && z_hd k) z_wk_200 (by omega) (by omega)
  rcases Nat.lt_or_ge k 240 with h | h
  · exact z_all_at (f := fun k => z_wdM k && z_hd k) z_wk_220 (by omega) (by omega)
  rcases Nat.lt_or_ge k 260 with h | h
  · exact z_all_at (f := fun k => z_wdM k && z_hd k) z_wk_240 (by omega) (by omega)
  rcases Nat.lt_or_ge k 280 with h | h
  · exact z_all_at (f := fun k => z_wdM k && z_hd k) z_wk_260 (by omega) (by omega)
  rcases Nat.lt_or_ge k 300 with h | h
  · exact z_all_at (f := fun k => z_wdM k && z_hd k) z_wk_280 (by omega) (by omega)
  rcases Nat.lt_or_ge k 320 with h | h
  · exact z_all_at (f := fun k => z_wdM k && z_hd k) z_wk_300 (by omega) (by omega)
  rcases Nat.lt_or_ge k 340 with h | h
  · exact z_all_at (f := fun k => z_wdM k && z_hd k) z_wk_320 (by omega) (by omega)
  rcases Nat.lt_or_ge k 343 with h | h
  · exact z_all_at (f := fun k => z_wdM k && z_hd k) z_wk_340 (by omega) (by omega)
  omega
theorem z_okk : ∀ k, k < z_nm → z_okM k = true := by
  intro k hk
  have hk : k < 343 := hk
  rcases Nat.lt_or_ge k 12 with h | h
  · exact z_all_at (f := z_okM) z_ok_0 (by omega) (by omega)
  rcases Nat.lt_or_ge k 18 with h | h
  · exact z_all_at (f := z_okM) z_ok_12 (by omega) (by omega)
  rcases Nat.lt_or_ge k 20 with h | h
  · exact z_all_at (f := z_okM) z_ok_18 (by omega) (by omega)
  rcases Nat.lt_or_ge k 28 with h | h
  · exact z_all_at (f := z_okM) z_ok_20 (by omega) (by omega)
  rcases Nat.lt_or_ge k 38 with h | h
  · exact z_all_at (f := z_okM) z_ok_28 (by omega) (by omega)
  rcases Nat.lt_or_ge k 40 with h | h
  · exact z_all_at (f := z_okM) z_ok_38 (by omega) (by omega)
  rcases Nat.lt_or_ge k 48 with h | h
  · exact z_all_at (f := z_okM) z_ok_40 (by omega) (by omega)
  rcases Nat.lt_or_ge k 54 with h | h
  · exact z_all_at (f := z_okM) z_ok_48 (by omega) (by omega)
  rcases Nat.lt_or_ge k 60 with h | h
  · exact z_all_at (f := z_okM) z_ok_54 (by omega) (by omega)
  rcases Nat.lt_or_ge k 71 with h | h
  · exact z_all_at (f := z_okM) z_ok_60 (by omega) (by omega)
  rcases Nat.lt_or_ge k 80 with h | h
  · exact z_all_at (f := z_okM) z_ok_71 (by omega) (by omega)
  rcases Nat.lt_or_ge k 93 with h | h
  · exact z_all_at (f := z_okM) z_ok_80 (by omega) (by omega)
  rcases Nat.lt_or_ge k 100 with h | h
  · exact z_all_at (f := z_okM) z_ok_93 (by omega) (by omega)
  rcases Nat.lt_or_ge k 110 with h | h
  · exact z_all_at (f := z_okM) z_ok_100 (by omega) (by omega)
  rcases Nat.lt_or_ge k 114 with h | h
  · exact z_all_at (f := z_okM) z_ok_110 (by omega) (by omega)
  rcases Nat.lt_or_ge k 120 with h | h
  · exact z_all_at (f := z_okM) z_ok_114 (by omega) (by omega)
  rcases Nat.lt_or_ge k 133 with h | h
  · exact z_all_at (f := z_okM) z_ok_120 (by omega) (by omega)
  rcases Nat.lt_or_ge k 140 with h | h
  · exact z_all_at (f := z_okM) z_ok_133 (by omega) (by omega)
  rcases Nat.lt_or_ge k 147 with h | h
  · exact z_all_at (f := z_okM) z_ok_140 (by omega) (by omega)
  rcases Nat.lt_or_ge k 153 with h | h
  · exact z_all_at (f := z_okM) z_ok_147 (by omega) (by omega)
  rcases Nat.lt_or_ge k 160 with h | h
  · exact z_all_at (f := z_okM) z_ok_153 (by omega) (by omega)
  rcases Nat.lt_or_ge k 166 with h | h
  · exact z_all_at (f := z_okM) z_ok_160 (by omega) (by omega)
  rcases Nat.lt_or_ge k 176 with h | h
  · exact z_all_at (f := z_okM) z_ok_166 (by omega) (by omega)
  rcases Nat.lt_or_ge k 180 with h | h
  · exact z_all_at (f := z_okM) z_ok_176 (by omega) (by omega)
  rcases Nat.lt_or_ge k 188 with h | h
  · exact z_all_at (f := z_okM) z_ok_180 (by omega) (by omega)
  rcases Nat.lt_or_ge k 195 with h | h
  · exact z_all_at (f := z_okM) z_ok_188 (by omega) (by omega)
  rcases Nat.lt_or_ge k 200 with h | h
  · exact z_all_at (f := z_okM) z_ok_195 (by omega) (by omega)
  rcases Nat.lt_or_ge k 208 with h | h
  · exact z_all_at (f := z_okM) z_ok_200 (by omega) (by omega)
  rcases Nat.lt_or_ge k 218 with h | h
  · exact z_all_at (f := z_okM) z_ok_208 (by omega) (by omega)
  rcases Nat.lt_or_ge k 220 with h | h
  · exact z_all_at (f := z_okM) z_ok_218 (by omega) (by omega)
  rcases Nat.lt_or_ge k 227 with h | h
  · exact z_all_at (f := z_okM) z_ok_220 (by omega) (by omega)
  rcases Nat.lt_or_ge k 236 with h | h
  · exact z_all_at (f := z_okM) z_ok_227 (by omega) (by omega)
  rcases Nat.lt_or_ge k 240 with h | h
  · exact z_all_at (f := z_okM) z_ok_236 (by omega) (by omega)
  rcases Nat.lt_or_ge k 252 with h | h
  · exact z_all_at (f := z_okM) z_ok_240 (by omega) (by omega)
  rcases Nat.lt_or_ge k 260 with h | h
  · exact z_all_at (f := z_okM) z_ok_252 (by omega) (by omega)
  rcases Nat.lt_or_ge k 272 with h | h
  · exact z_all_at (f := z_okM) z_ok_260 (by omega) (by omega)
  rcases Nat.lt_or_ge k 280 with h | h
  · exact z_all_at (f := z_okM) z_ok_272 (by omega) (by omega)
  rcases Nat.lt_or_ge k 300 with h | h
  · exact z_all_at (f := z_okM) z_ok_280 (by omega) (by omega)
  rcases Nat.lt_or_ge k 308 with h | h
  · exact z_all_at (f := z_okM) z_ok_300 (by omega) (by omega)
  rcases Nat.lt_or_ge k 317 with h | h
  · exact z_all_at (f := z_okM) z_ok_308 (by omega) (by omega)
  rcases Nat.lt_or_ge k 320 with h | h
  · exact z_all_at (f := z_okM) z_ok_317 (by omega) (by omega)
  rcases Nat.lt_or_ge k 340 with h | h
  · exact z_all_at (f := z_okM) z_ok_320 (by omega) (by omega)
  rcases Nat.lt_or_ge k 343 with h | h
  · exact z_all_at (f := z_okM) z_ok_340 (by omega) (by omega)
  omega

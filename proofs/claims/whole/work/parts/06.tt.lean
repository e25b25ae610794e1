theorem zz_a : (List.range 20).all (fun k => z_okM (k + 200)) = true := by decide +kernel

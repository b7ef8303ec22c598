/-! the checks, by the kernel -/
set_option maxRecDepth 100000 in
theorem z_ok_0 : (List.range' 0 12).all z_okm = true := by decide +kernel
set_option maxRecDepth 100000 in
theorem z_ok_12 : (List.range' 12 12).all z_okm = true := by decide +kernel
set_option maxRecDepth 100000 in
theorem z_ok_24 : (List.range' 24 12).all z_okm = true := by decide +kernel
set_option maxRecDepth 100000 in
theorem z_ok_36 : (List.range' 36 12).all z_okm = true := by decide +kernel
set_option maxRecDepth 100000 in
theorem z_ok_48 : (List.range' 48 12).all z_okm = true := by decide +kernel
set_option maxRecDepth 100000 in
theorem z_ok_60 : (List.range' 60 12).all z_okm = true := by decide +kernel
set_option maxRecDepth 100000 in
theorem z_ok_72 : (List.range' 72 12).all z_okm = true := by decide +kernel
set_option maxRecDepth 100000 in
theorem z_ok_84 : (List.range' 84 12).all z_okm = true := by decide +kernel
set_option maxRecDepth 100000 in
theorem z_ok_96 : (List.range' 96 12).all z_okm = true := by decide +kernel
set_option maxRecDepth 100000 in
theorem z_ok_108 : (List.range' 108 12).all z_okm = true := by decide +kernel
set_option maxRecDepth 100000 in
theorem z_ok_120 : (List.range' 120 12).all z_okm = true := by decide +kernel
set_option maxRecDepth 100000 in
theorem z_ok_132 : (List.range' 132 12).all z_okm = true := by decide +kernel
set_option maxRecDepth 100000 in
theorem z_ok_144 : (List.range' 144 12).all z_okm = true := by decide +kernel
set_option maxRecDepth 100000 in
theorem z_ok_156 : (List.range' 156 12).all z_okm = true := by decide +kernel
set_option maxRecDepth 100000 in
theorem z_ok_168 : (List.range' 168 12).all z_okm = true := by decide +kernel
set_option maxRecDepth 100000 in
theorem z_ok_180 : (List.range' 180 12).all z_okm = true := by decide +kernel
set_option maxRecDepth 100000 in
theorem z_ok_192 : (List.range' 192 12).all z_okm = true := by decide +kernel
set_option maxRecDepth 100000 in
theorem z_ok_204 : (List.range' 204 12).all z_okm = true := by decide +kernel
set_option maxRecDepth 100000 in
theorem z_ok_216 : (List.range' 216 12).all z_okm = true := by decide +kernel
set_option maxRecDepth 100000 in
theorem z_ok_228 : (List.range' 228 4).all z_okm = true := by decide +kernel

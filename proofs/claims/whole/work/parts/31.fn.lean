def f_X12_init (n : Nat) (v0 : Nat) (σ : Sg) : Option Sg :=
  nm (sN σ) fun r191 =>
  nm (nw σ 13 8) fun σ192 =>
  ck (okO σ192 v0 11) <|
  ck (¬ r191 = 0) <|
  nm (pR σ192 v0 1 r191) fun σ195 =>
  nm (sN σ195) fun r196 =>
  nm (nw σ195 13 8) fun σ197 =>
  ck (okO σ197 v0 11) <|
  ck (¬ r196 = 0) <|
  nm (pR σ197 v0 2 r196) fun σ200 =>
  nm (sN σ200) fun r201 =>
  nm (nw σ200 13 12) fun σ202 =>
  ck (okO σ202 v0 11) <|
  ck (¬ r201 = 0) <|
  nm (pR σ202 v0 4 r201) fun σ205 =>
  nm (sN σ205) fun r206 =>
  nm (nw σ205 13 4) fun σ207 =>
  ck (okO σ207 v0 11) <|
  ck (¬ r206 = 0) <|
  nm (pR σ207 v0 5 r206) fun σ210 =>
  nm (sN σ210) fun r211 =>
  nm (nw σ210 13 32) fun σ212 =>
  ck (okO σ212 v0 11) <|
  ck (¬ r211 = 0) <|
  nm (pR σ212 v0 6 r211) fun σ215 =>
  nm (sN σ215) fun r216 =>
  nm (nw σ215 13 4) fun σ217 =>
  ck (okO σ217 v0 11) <|
  ck (¬ r216 = 0) <|
  nm (pR σ217 v0 8 r216) fun σ220 =>
  nm (sN σ220) fun r221 =>
  nm (nw σ220 13 80) fun σ222 =>
  ck (okO σ222 v0 11) <|
  ck (¬ r221 = 0) <|
  nm (pR σ222 v0 9 r221) fun σ225 =>
  nm (sN σ225) fun r226 =>
  nm (nw σ225 13 80) fun σ227 =>
  ck (okO σ227 v0 11) <|
  ck (¬ r226 = 0) <|
  nm (pR σ227 v0 10 r226) fun σ230 =>
  nm (sN σ230) fun r231 =>
  nm (nw σ230 13 80) fun σ232 =>
  ck (okO σ232 v0 11) <|
  ck (¬ r231 = 0) <|
  nm (pR σ232 v0 11 r231) fun σ235 =>
  nm (sN σ235) fun r236 =>
  nm (nw σ235 13 80) fun σ237 =>
  ck (okO σ237 v0 11) <|
  ck (¬ r236 = 0) <|
  nm (pR σ237 v0 12 r236) fun σ240 =>
  ck (okO σ240 v0 11) <|
  nm (pI σ240 v0 14 (-2 : Int32)) fun σ242 =>
  nm (sN σ242) fun r243 =>
  nm (nw σ242 13 12) fun σ244 =>
  ck (okO σ244 v0 11) <|
  ck (¬ r243 = 0) <|
  nm (pR σ244 v0 18 r243) fun σ247 =>
  nm (sN σ247) fun r248 =>
  nm (nw σ247 14 16) fun σ249 =>
  ck (okO σ249 v0 11) <|
  ck (¬ r248 = 0) <|
  nm (pR σ249 v0 19 r248) fun σ252 =>
  nm (sN σ252) fun r253 =>
  nm (nw σ252 14 16) fun σ254 =>
  ck (okO σ254 v0 11) <|
  ck (¬ r253 = 0) <|
  nm (pR σ254 v0 20 r253) fun σ257 =>
  nm (sN σ257) fun r258 =>
  nm (nw σ257 14 16) fun σ259 =>
  ck (okO σ259 v0 11) <|
  ck (¬ r258 = 0) <|
  nm (pR σ259 v0 21 r258) fun σ262 =>
  nm (sN σ262) fun r263 =>
  nm (nw σ262 14 24) fun σ264 =>
  ck (okO σ264 v0 11) <|
  ck (¬ r263 = 0) <|
  nm (pR σ264 v0 22 r263) fun σ267 =>
  nm (sN σ267) fun r268 =>
  nm (nw σ267 14 16) fun σ269 =>
  ck (okO σ269 v0 11) <|
  ck (¬ r268 = 0) <|
  nm (pR σ269 v0 23 r268) fun σ272 =>
  nm (sN σ272) fun r273 =>
  nm (nw σ272 14 8) fun σ274 =>
  ck (okO σ274 v0 11) <|
  ck (¬ r273 = 0) <|
  nm (pR σ274 v0 24 r273) fun σ277 =>
  nm (sN σ277) fun r278 =>
  nm (nw σ277 14 8) fun σ279 =>
  ck (okO σ279 v0 11) <|
  ck (¬ r278 = 0) <|
  nm (pR σ279 v0 25 r278) fun σ282 =>
  nm (sN σ282) fun r283 =>
  nm (nw σ282 15 16) fun σ284 =>
  ck (okO σ284 v0 11) <|
  ck (¬ r283 = 0) <|
  nm (pR σ284 v0 26 r283) fun σ287 =>
  nm (sN σ287) fun r288 =>
  nm (nw σ287 13 6) fun σ289 =>
  ck (okO σ289 v0 11) <|
  ck (¬ r288 = 0) <|
  nm (pR σ289 v0 33 r288) fun σ292 =>
  nm (sN σ292) fun r293 =>
  nm (nw σ292 13 6) fun σ294 =>
  ck (okO σ294 v0 11) <|
  ck (¬ r293 = 0) <|
  nm (pR σ294 v0 34 r293) fun σ297 =>
  nm (sN σ297) fun r298 =>
  nm (nw σ297 14 384) fun σ299 =>
  ck (okO σ299 v0 11) <|
  ck (¬ r298 = 0) <|
  nm (pR σ299 v0 35 r298) fun σ302 =>
  nm (sN σ302) fun r303 =>
  nm (nw σ302 13 6) fun σ304 =>
  ck (okO σ304 v0 11) <|
  ck (¬ r303 = 0) <|
  nm (pR σ304 v0 36 r303) fun σ307 =>
  nm (sN σ307) fun r308 =>
  nm (nw σ307 13 6) fun σ309 =>
  ck (okO σ309 v0 11) <|
  ck (¬ r308 = 0) <|
  nm (pR σ309 v0 37 r308) fun σ312 =>
  nm (sN σ312) fun r313 =>
  nm (nw σ312 14 48) fun σ314 =>
  ck (okO σ314 v0 11) <|
  ck (¬ r313 = 0) <|
  nm (pR σ314 v0 38 r313) fun σ317 =>
  nm (sN σ317) fun r318 =>
  nm (nw σ317 14 24) fun σ319 =>
  ck (okO σ319 v0 11) <|
  ck (¬ r318 = 0) <|
  nm (pR σ319 v0 39 r318) fun σ322 =>
  nm (sN σ322) fun r323 =>
  nm (nw σ322 14 24) fun σ324 =>
  ck (okO σ324 v0 11) <|
  ck (¬ r323 = 0) <|
  nm (pR σ324 v0 40 r323) fun σ327 =>
  nm (sN σ327) fun r328 =>
  nm (nw σ327 14 8) fun σ329 =>
  ck (okO σ329 v0 11) <|
  ck (¬ r328 = 0) <|
  nm (pR σ329 v0 41 r328) fun σ332 =>
  nm (sN σ332) fun r333 =>
  nm (nw σ332 14 8) fun σ334 =>
  ck (okO σ334 v0 11) <|
  ck (¬ r333 = 0) <|
  nm (pR σ334 v0 42 r333) fun σ337 =>
  nm (sN σ337) fun r338 =>
  nm (nw σ337 12 8) fun σ339 =>
  ck (okO σ339 v0 11) <|
  ck (¬ r338 = 0) <|
  nm (pR σ339 v0 43 r338) fun σ342 =>
  nm (sN σ342) fun r343 =>
  nm (nw σ342 12 8) fun σ344 =>
  ck (okO σ344 v0 11) <|
  ck (¬ r343 = 0) <|
  nm (pR σ344 v0 44 r343) fun σ347 =>
  nm (sN σ347) fun r348 =>
  nm (nw σ347 13 6) fun σ349 =>
  ck (okO σ349 v0 11) <|
  ck (¬ r348 = 0) <|
  nm (pR σ349 v0 46 r348) fun σ352 =>
  nm (sN σ352) fun r353 =>
  nm (nw σ352 14 12) fun σ354 =>
  ck (okO σ354 v0 11) <|
  ck (¬ r353 = 0) <|
  nm (pR σ354 v0 47 r353) fun σ357 =>
  nm (sN σ357) fun r358 =>
  nm (nw σ357 14 200) fun σ359 =>
  ck (okO σ359 v0 11) <|
  ck (¬ r358 = 0) <|
  nm (pR σ359 v0 48 r358) fun σ362 =>
  nm (sN σ362) fun r363 =>
  nm (nw σ362 14 200) fun σ364 =>
  ck (okO σ364 v0 11) <|
  ck (¬ r363 = 0) <|
  nm (pR σ364 v0 49 r363) fun σ367 =>
  nm (sN σ367) fun r368 =>
  nm (nw σ367 15 200) fun σ369 =>
  ck (okO σ369 v0 11) <|
  ck (¬ r368 = 0) <|
  nm (pR σ369 v0 50 r368) fun σ372 =>
  nm (sN σ372) fun r373 =>
  nm (nw σ372 14 64) fun σ374 =>
  ck (okO σ374 v0 11) <|
  ck (¬ r373 = 0) <|
  nm (pR σ374 v0 51 r373) fun σ377 =>
  ck (okO σ377 v0 11) <|
  bp (f_X12_resets n v0 σ377) fun σ380 =>
  some σ380
set_option maxRecDepth 20000 in
theorem t_X12_init {G : Gl} {σr : Sg} {n : Nat} {v0 : Nat} {σ : Sg} (h : f_X12_init n v0 σ = some σr) : MT G M_X12_init [.ref v0] σ none σr := by
  refine MT_of rfl rfl (Nat.le_of_ble_eq_true rfl) ?_
  show RN G M_X12_init 0 [some (.ref v0)] [] σ (.inl none) σr
  unfold f_X12_init at h
  refine RN_aload_n (pc := 0) (k := 0) (by decide +kernel) rfl rfl ?_
  refine RN_objInit (pc := 1) (idx := 1) (by decide +kernel) oi_RX12_1 oi_b oi_c (by decide) (by decide) (Nat.le_of_ble_eq_true rfl) ?_
  refine RN_aload_n (pc := 4) (k := 0) (by decide +kernel) rfl rfl ?_
  refine RN_bipush (pc := 5) (n := 8) (v := 8) (by decide +kernel) (by decide) ?_
  refine RN_newa (pc := 7) (atype := .int) (N := 8) (t := 13) (by decide +kernel) ⟨by decide, by decide, rfl⟩ ac_13 (by decide) (by decide) (by decide) ?_
  obtain ⟨r191, er191, h⟩ := nm_el h
  refine RN_nmR er191 ?_
  obtain ⟨σ192, eσ192, h⟩ := nm_el h
  refine RN_nmS eσ192 ?_
  obtain ⟨c193, h⟩ := ck_el h
  obtain ⟨c194, h⟩ := ck_el h
  refine RN_putR (pc := 9) (idx := 7) (ci := 11) (k := 1) (by decide +kernel) lf_RX12_7 rfl (fun q hq => by cases hq; exact Or.inr ⟨rfl, rfl, rfl⟩) c194 c193 ?_
  obtain ⟨σ195, eσ195, h⟩ := nm_el h
  refine RN_nmS eσ195 ?_
  refine RN_aload_n (pc := 12) (k := 0) (by decide +kernel) rfl rfl ?_
  refine RN_bipush (pc := 13) (n := 8) (v := 8) (by decide +kernel) (by decide) ?_
  refine RN_newa (pc := 15) (atype := .int) (N := 8) (t := 13) (by decide +kernel) ⟨by decide, by decide, rfl⟩ ac_13 (by decide) (by decide) (by decide) ?_
  obtain ⟨r196, er196, h⟩ := nm_el h
  refine RN_nmR er196 ?_
  obtain ⟨σ197, eσ197, h⟩ := nm_el h
  refine RN_nmS eσ197 ?_
  obtain ⟨c198, h⟩ := ck_el h
  obtain ⟨c199, h⟩ := ck_el h
  refine RN_putR (pc := 17) (idx := 13) (ci := 11) (k := 2) (by decide +kernel) lf_RX12_13 rfl (fun q hq => by cases hq; exact Or.inr ⟨rfl, rfl, rfl⟩) c199 c198 ?_
  obtain ⟨σ200, eσ200, h⟩ := nm_el h
  refine RN_nmS eσ200 ?_
  refine RN_aload_n (pc := 20) (k := 0) (by decide +kernel) rfl rfl ?_
  refine RN_bipush (pc := 21) (n := 12) (v := 12) (by decide +kernel) (by decide) ?_
  refine RN_newa (pc := 23) (atype := .int) (N := 12) (t := 13) (by decide +kernel) ⟨by decide, by decide, rfl⟩ ac_13 (by decide) (by decide) (by decide) ?_
  obtain ⟨r201, er201, h⟩ := nm_el h
  refine RN_nmR er201 ?_
  obtain ⟨σ202, eσ202, h⟩ := nm_el h
  refine RN_nmS eσ202 ?_
  obtain ⟨c203, h⟩ := ck_el h
  obtain ⟨c204, h⟩ := ck_el h
  refine RN_putR (pc := 25) (idx := 16) (ci := 11) (k := 4) (by decide +kernel) lf_RX12_16 rfl (fun q hq => by cases hq; exact Or.inr ⟨rfl, rfl, rfl⟩) c204 c203 ?_
  obtain ⟨σ205, eσ205, h⟩ := nm_el h
  refine RN_nmS eσ205 ?_
  refine RN_aload_n (pc := 28) (k := 0) (by decide +kernel) rfl rfl ?_
  refine RN_iconst (pc := 29) (n := 4) (v := 4) (by decide +kernel) (by decide) ?_
  refine RN_newa (pc := 30) (atype := .int) (N := 4) (t := 13) (by decide +kernel) ⟨by decide, by decide, rfl⟩ ac_13 (by decide) (by decide) (by decide) ?_
  obtain ⟨r206, er206, h⟩ := nm_el h
  refine RN_nmR er206 ?_
  obtain ⟨σ207, eσ207, h⟩ := nm_el h
  refine RN_nmS eσ207 ?_
  obtain ⟨c208, h⟩ := ck_el h
  obtain ⟨c209, h⟩ := ck_el h
  refine RN_putR (pc := 32) (idx := 19) (ci := 11) (k := 5) (by decide +kernel) lf_RX12_19 rfl (fun q hq => by cases hq; exact Or.inr ⟨rfl, rfl, rfl⟩) c209 c208 ?_
  obtain ⟨σ210, eσ210, h⟩ := nm_el h
  refine RN_nmS eσ210 ?_
  refine RN_aload_n (pc := 35) (k := 0) (by decide +kernel) rfl rfl ?_
  refine RN_bipush (pc := 36) (n := 32) (v := 32) (by decide +kernel) (by decide) ?_
  refine RN_newa (pc := 38) (atype := .int) (N := 32) (t := 13) (by decide +kernel) ⟨by decide, by decide, rfl⟩ ac_13 (by decide) (by decide) (by decide) ?_
  obtain ⟨r211, er211, h⟩ := nm_el h
  refine RN_nmR er211 ?_
  obtain ⟨σ212, eσ212, h⟩ := nm_el h
  refine RN_nmS eσ212 ?_
  obtain ⟨c213, h⟩ := ck_el h
  obtain ⟨c214, h⟩ := ck_el h
  refine RN_putR (pc := 40) (idx := 22) (ci := 11) (k := 6) (by decide +kernel) lf_RX12_22 rfl (fun q hq => by cases hq; exact Or.inr ⟨rfl, rfl, rfl⟩) c214 c213 ?_
  obtain ⟨σ215, eσ215, h⟩ := nm_el h
  refine RN_nmS eσ215 ?_
  refine RN_aload_n (pc := 43) (k := 0) (by decide +kernel) rfl rfl ?_
  refine RN_iconst (pc := 44) (n := 4) (v := 4) (by decide +kernel) (by decide) ?_
  refine RN_newa (pc := 45) (atype := .int) (N := 4) (t := 13) (by decide +kernel) ⟨by decide, by decide, rfl⟩ ac_13 (by decide) (by decide) (by decide) ?_
  obtain ⟨r216, er216, h⟩ := nm_el h
  refine RN_nmR er216 ?_
  obtain ⟨σ217, eσ217, h⟩ := nm_el h
  refine RN_nmS eσ217 ?_
  obtain ⟨c218, h⟩ := ck_el h
  obtain ⟨c219, h⟩ := ck_el h
  refine RN_putR (pc := 47) (idx := 25) (ci := 11) (k := 8) (by decide +kernel) lf_RX12_25 rfl (fun q hq => by cases hq; exact Or.inr ⟨rfl, rfl, rfl⟩) c219 c218 ?_
  obtain ⟨σ220, eσ220, h⟩ := nm_el h
  refine RN_nmS eσ220 ?_
  refine RN_aload_n (pc := 50) (k := 0) (by decide +kernel) rfl rfl ?_
  refine RN_bipush (pc := 51) (n := 80) (v := 80) (by decide +kernel) (by decide) ?_
  refine RN_newa (pc := 53) (atype := .int) (N := 80) (t := 13) (by decide +kernel) ⟨by decide, by decide, rfl⟩ ac_13 (by decide) (by decide) (by decide) ?_
  obtain ⟨r221, er221, h⟩ := nm_el h
  refine RN_nmR er221 ?_
  obtain ⟨σ222, eσ222, h⟩ := nm_el h
  refine RN_nmS eσ222 ?_
  obtain ⟨c223, h⟩ := ck_el h
  obtain ⟨c224, h⟩ := ck_el h
  refine RN_putR (pc := 55) (idx := 28) (ci := 11) (k := 9) (by decide +kernel) lf_RX12_28 rfl (fun q hq => by cases hq; exact Or.inr ⟨rfl, rfl, rfl⟩) c224 c223 ?_
  obtain ⟨σ225, eσ225, h⟩ := nm_el h
  refine RN_nmS eσ225 ?_
  refine RN_aload_n (pc := 58) (k := 0) (by decide +kernel) rfl rfl ?_
  refine RN_bipush (pc := 59) (n := 80) (v := 80) (by decide +kernel) (by decide) ?_
  refine RN_newa (pc := 61) (atype := .int) (N := 80) (t := 13) (by decide +kernel) ⟨by decide, by decide, rfl⟩ ac_13 (by decide) (by decide) (by decide) ?_
  obtain ⟨r226, er226, h⟩ := nm_el h
  refine RN_nmR er226 ?_
  obtain ⟨σ227, eσ227, h⟩ := nm_el h
  refine RN_nmS eσ227 ?_
  obtain ⟨c228, h⟩ := ck_el h
  obtain ⟨c229, h⟩ := ck_el h
  refine RN_putR (pc := 63) (idx := 31) (ci := 11) (k := 10) (by decide +kernel) lf_RX12_31 rfl (fun q hq => by cases hq; exact Or.inr ⟨rfl, rfl, rfl⟩) c229 c228 ?_
  obtain ⟨σ230, eσ230, h⟩ := nm_el h
  refine RN_nmS eσ230 ?_
  refine RN_aload_n (pc := 66) (k := 0) (by decide +kernel) rfl rfl ?_
  refine RN_bipush (pc := 67) (n := 80) (v := 80) (by decide +kernel) (by decide) ?_
  refine RN_newa (pc := 69) (atype := .int) (N := 80) (t := 13) (by decide +kernel) ⟨by decide, by decide, rfl⟩ ac_13 (by decide) (by decide) (by decide) ?_
  obtain ⟨r231, er231, h⟩ := nm_el h
  refine RN_nmR er231 ?_
  obtain ⟨σ232, eσ232, h⟩ := nm_el h
  refine RN_nmS eσ232 ?_
  obtain ⟨c233, h⟩ := ck_el h
  obtain ⟨c234, h⟩ := ck_el h
  refine RN_putR (pc := 71) (idx := 34) (ci := 11) (k := 11) (by decide +kernel) lf_RX12_34 rfl (fun q hq => by cases hq; exact Or.inr ⟨rfl, rfl, rfl⟩) c234 c233 ?_
  obtain ⟨σ235, eσ235, h⟩ := nm_el h
  refine RN_nmS eσ235 ?_
  refine RN_aload_n (pc := 74) (k := 0) (by decide +kernel) rfl rfl ?_
  refine RN_bipush (pc := 75) (n := 80) (v := 80) (by decide +kernel) (by decide) ?_
  refine RN_newa (pc := 77) (atype := .int) (N := 80) (t := 13) (by decide +kernel) ⟨by decide, by decide, rfl⟩ ac_13 (by decide) (by decide) (by decide) ?_
  obtain ⟨r236, er236, h⟩ := nm_el h
  refine RN_nmR er236 ?_
  obtain ⟨σ237, eσ237, h⟩ := nm_el h
  refine RN_nmS eσ237 ?_
  obtain ⟨c238, h⟩ := ck_el h
  obtain ⟨c239, h⟩ := ck_el h
  refine RN_putR (pc := 79) (idx := 37) (ci := 11) (k := 12) (by decide +kernel) lf_RX12_37 rfl (fun q hq => by cases hq; exact Or.inr ⟨rfl, rfl, rfl⟩) c239 c238 ?_
  obtain ⟨σ240, eσ240, h⟩ := nm_el h
  refine RN_nmS eσ240 ?_
  refine RN_aload_n (pc := 82) (k := 0) (by decide +kernel) rfl rfl ?_
  refine RN_bipush (pc := 83) (n := -2) (v := -2) (by decide +kernel) (by decide) ?_
  obtain ⟨c241, h⟩ := ck_el h
  refine RN_putI (pc := 85) (idx := 40) (ci := 11) (k := 14) (by decide +kernel) lf_RX12_40 rfl (fun q hq => by cases hq; exact Or.inl rfl) c241 ?_
  obtain ⟨σ242, eσ242, h⟩ := nm_el h
  refine RN_nmS eσ242 ?_
  refine RN_aload_n (pc := 88) (k := 0) (by decide +kernel) rfl rfl ?_
  refine RN_bipush (pc := 89) (n := 12) (v := 12) (by decide +kernel) (by decide) ?_
  refine RN_newa (pc := 91) (atype := .int) (N := 12) (t := 13) (by decide +kernel) ⟨by decide, by decide, rfl⟩ ac_13 (by decide) (by decide) (by decide) ?_
  obtain ⟨r243, er243, h⟩ := nm_el h
  refine RN_nmR er243 ?_
  obtain ⟨σ244, eσ244, h⟩ := nm_el h
  refine RN_nmS eσ244 ?_
  obtain ⟨c245, h⟩ := ck_el h
  obtain ⟨c246, h⟩ := ck_el h
  refine RN_putR (pc := 93) (idx := 44) (ci := 11) (k := 18) (by decide +kernel) lf_RX12_44 rfl (fun q hq => by cases hq; exact Or.inr ⟨rfl, rfl, rfl⟩) c246 c245 ?_
  obtain ⟨σ247, eσ247, h⟩ := nm_el h
  refine RN_nmS eσ247 ?_
  refine RN_aload_n (pc := 96) (k := 0) (by decide +kernel) rfl rfl ?_
  refine RN_bipush (pc := 97) (n := 16) (v := 16) (by decide +kernel) (by decide) ?_
  refine RN_newa (pc := 99) (atype := .long) (N := 16) (t := 14) (by decide +kernel) ⟨by decide, by decide, rfl⟩ ac_14 (by decide) (by decide) (by decide) ?_
  obtain ⟨r248, er248, h⟩ := nm_el h
  refine RN_nmR er248 ?_
  obtain ⟨σ249, eσ249, h⟩ := nm_el h
  refine RN_nmS eσ249 ?_
  obtain ⟨c250, h⟩ := ck_el h
  obtain ⟨c251, h⟩ := ck_el h
  refine RN_putR (pc := 101) (idx := 47) (ci := 11) (k := 19) (by decide +kernel) lf_RX12_47 rfl (fun q hq => by cases hq; exact Or.inr ⟨rfl, rfl, rfl⟩) c251 c250 ?_
  obtain ⟨σ252, eσ252, h⟩ := nm_el h
  refine RN_nmS eσ252 ?_
  refine RN_aload_n (pc := 104) (k := 0) (by decide +kernel) rfl rfl ?_
  refine RN_bipush (pc := 105) (n := 16) (v := 16) (by decide +kernel) (by decide) ?_
  refine RN_newa (pc := 107) (atype := .long) (N := 16) (t := 14) (by decide +kernel) ⟨by decide, by decide, rfl⟩ ac_14 (by decide) (by decide) (by decide) ?_
  obtain ⟨r253, er253, h⟩ := nm_el h
  refine RN_nmR er253 ?_
  obtain ⟨σ254, eσ254, h⟩ := nm_el h
  refine RN_nmS eσ254 ?_
  obtain ⟨c255, h⟩ := ck_el h
  obtain ⟨c256, h⟩ := ck_el h
  refine RN_putR (pc := 109) (idx := 51) (ci := 11) (k := 20) (by decide +kernel) lf_RX12_51 rfl (fun q hq => by cases hq; exact Or.inr ⟨rfl, rfl, rfl⟩) c256 c255 ?_
  obtain ⟨σ257, eσ257, h⟩ := nm_el h
  refine RN_nmS eσ257 ?_
  refine RN_aload_n (pc := 112) (k := 0) (by decide +kernel) rfl rfl ?_
  refine RN_bipush (pc := 113) (n := 16) (v := 16) (by decide +kernel) (by decide) ?_
  refine RN_newa (pc := 115) (atype := .long) (N := 16) (t := 14) (by decide +kernel) ⟨by decide, by decide, rfl⟩ ac_14 (by decide) (by decide) (by decide) ?_
  obtain ⟨r258, er258, h⟩ := nm_el h
  refine RN_nmR er258 ?_
  obtain ⟨σ259, eσ259, h⟩ := nm_el h
  refine RN_nmS eσ259 ?_
  obtain ⟨c260, h⟩ := ck_el h
  obtain ⟨c261, h⟩ := ck_el h
  refine RN_putR (pc := 117) (idx := 54) (ci := 11) (k := 21) (by decide +kernel) lf_RX12_54 rfl (fun q hq => by cases hq; exact Or.inr ⟨rfl, rfl, rfl⟩) c261 c260 ?_
  obtain ⟨σ262, eσ262, h⟩ := nm_el h
  refine RN_nmS eσ262 ?_
  refine RN_aload_n (pc := 120) (k := 0) (by decide +kernel) rfl rfl ?_
  refine RN_bipush (pc := 121) (n := 24) (v := 24) (by decide +kernel) (by decide) ?_
  refine RN_newa (pc := 123) (atype := .long) (N := 24) (t := 14) (by decide +kernel) ⟨by decide, by decide, rfl⟩ ac_14 (by decide) (by decide) (by decide) ?_
  obtain ⟨r263, er263, h⟩ := nm_el h
  refine RN_nmR er263 ?_
  obtain ⟨σ264, eσ264, h⟩ := nm_el h
  refine RN_nmS eσ264 ?_
  obtain ⟨c265, h⟩ := ck_el h
  obtain ⟨c266, h⟩ := ck_el h
  refine RN_putR (pc := 125) (idx := 57) (ci := 11) (k := 22) (by decide +kernel) lf_RX12_57 rfl (fun q hq => by cases hq; exact Or.inr ⟨rfl, rfl, rfl⟩) c266 c265 ?_
  obtain ⟨σ267, eσ267, h⟩ := nm_el h
  refine RN_nmS eσ267 ?_
  refine RN_aload_n (pc := 128) (k := 0) (by decide +kernel) rfl rfl ?_
  refine RN_bipush (pc := 129) (n := 16) (v := 16) (by decide +kernel) (by decide) ?_
  refine RN_newa (pc := 131) (atype := .long) (N := 16) (t := 14) (by decide +kernel) ⟨by decide, by decide, rfl⟩ ac_14 (by decide) (by decide) (by decide) ?_
  obtain ⟨r268, er268, h⟩ := nm_el h
  refine RN_nmR er268 ?_
  obtain ⟨σ269, eσ269, h⟩ := nm_el h
  refine RN_nmS eσ269 ?_
  obtain ⟨c270, h⟩ := ck_el h
  obtain ⟨c271, h⟩ := ck_el h
  refine RN_putR (pc := 133) (idx := 60) (ci := 11) (k := 23) (by decide +kernel) lf_RX12_60 rfl (fun q hq => by cases hq; exact Or.inr ⟨rfl, rfl, rfl⟩) c271 c270 ?_
  obtain ⟨σ272, eσ272, h⟩ := nm_el h
  refine RN_nmS eσ272 ?_
  refine RN_aload_n (pc := 136) (k := 0) (by decide +kernel) rfl rfl ?_
  refine RN_bipush (pc := 137) (n := 8) (v := 8) (by decide +kernel) (by decide) ?_
  refine RN_newa (pc := 139) (atype := .long) (N := 8) (t := 14) (by decide +kernel) ⟨by decide, by decide, rfl⟩ ac_14 (by decide) (by decide) (by decide) ?_
  obtain ⟨r273, er273, h⟩ := nm_el h
  refine RN_nmR er273 ?_
  obtain ⟨σ274, eσ274, h⟩ := nm_el h
  refine RN_nmS eσ274 ?_
  obtain ⟨c275, h⟩ := ck_el h
  obtain ⟨c276, h⟩ := ck_el h
  refine RN_putR (pc := 141) (idx := 63) (ci := 11) (k := 24) (by decide +kernel) lf_RX12_63 rfl (fun q hq => by cases hq; exact Or.inr ⟨rfl, rfl, rfl⟩) c276 c275 ?_
  obtain ⟨σ277, eσ277, h⟩ := nm_el h
  refine RN_nmS eσ277 ?_
  refine RN_aload_n (pc := 144) (k := 0) (by decide +kernel) rfl rfl ?_
  refine RN_bipush (pc := 145) (n := 8) (v := 8) (by decide +kernel) (by decide) ?_
  refine RN_newa (pc := 147) (atype := .long) (N := 8) (t := 14) (by decide +kernel) ⟨by decide, by decide, rfl⟩ ac_14 (by decide) (by decide) (by decide) ?_
  obtain ⟨r278, er278, h⟩ := nm_el h
  refine RN_nmR er278 ?_
  obtain ⟨σ279, eσ279, h⟩ := nm_el h
  refine RN_nmS eσ279 ?_
  obtain ⟨c280, h⟩ := ck_el h
  obtain ⟨c281, h⟩ := ck_el h
  refine RN_putR (pc := 149) (idx := 66) (ci := 11) (k := 25) (by decide +kernel) lf_RX12_66 rfl (fun q hq => by cases hq; exact Or.inr ⟨rfl, rfl, rfl⟩) c281 c280 ?_
  obtain ⟨σ282, eσ282, h⟩ := nm_el h
  refine RN_nmS eσ282 ?_
  refine RN_aload_n (pc := 152) (k := 0) (by decide +kernel) rfl rfl ?_
  refine RN_bipush (pc := 153) (n := 16) (v := 16) (by decide +kernel) (by decide) ?_
  refine RN_newa (pc := 155) (atype := .boolean) (N := 16) (t := 15) (by decide +kernel) ⟨by decide, by decide, rfl⟩ ac_15 (by decide) (by decide) (by decide) ?_
  obtain ⟨r283, er283, h⟩ := nm_el h
  refine RN_nmR er283 ?_
  obtain ⟨σ284, eσ284, h⟩ := nm_el h
  refine RN_nmS eσ284 ?_
  obtain ⟨c285, h⟩ := ck_el h
  obtain ⟨c286, h⟩ := ck_el h
  refine RN_putR (pc := 157) (idx := 69) (ci := 11) (k := 26) (by decide +kernel) lf_RX12_69 rfl (fun q hq => by cases hq; exact Or.inr ⟨rfl, rfl, rfl⟩) c286 c285 ?_
  obtain ⟨σ287, eσ287, h⟩ := nm_el h
  refine RN_nmS eσ287 ?_
  refine RN_aload_n (pc := 160) (k := 0) (by decide +kernel) rfl rfl ?_
  refine RN_bipush (pc := 161) (n := 6) (v := 6) (by decide +kernel) (by decide) ?_
  refine RN_newa (pc := 163) (atype := .int) (N := 6) (t := 13) (by decide +kernel) ⟨by decide, by decide, rfl⟩ ac_13 (by decide) (by decide) (by decide) ?_
  obtain ⟨r288, er288, h⟩ := nm_el h
  refine RN_nmR er288 ?_
  obtain ⟨σ289, eσ289, h⟩ := nm_el h
  refine RN_nmS eσ289 ?_
  obtain ⟨c290, h⟩ := ck_el h
  obtain ⟨c291, h⟩ := ck_el h
  refine RN_putR (pc := 165) (idx := 73) (ci := 11) (k := 33) (by decide +kernel) lf_RX12_73 rfl (fun q hq => by cases hq; exact Or.inr ⟨rfl, rfl, rfl⟩) c291 c290 ?_
  obtain ⟨σ292, eσ292, h⟩ := nm_el h
  refine RN_nmS eσ292 ?_
  refine RN_aload_n (pc := 168) (k := 0) (by decide +kernel) rfl rfl ?_
  refine RN_bipush (pc := 169) (n := 6) (v := 6) (by decide +kernel) (by decide) ?_
  refine RN_newa (pc := 171) (atype := .int) (N := 6) (t := 13) (by decide +kernel) ⟨by decide, by decide, rfl⟩ ac_13 (by decide) (by decide) (by decide) ?_
  obtain ⟨r293, er293, h⟩ := nm_el h
  refine RN_nmR er293 ?_
  obtain ⟨σ294, eσ294, h⟩ := nm_el h
  refine RN_nmS eσ294 ?_
  obtain ⟨c295, h⟩ := ck_el h
  obtain ⟨c296, h⟩ := ck_el h
  refine RN_putR (pc := 173) (idx := 76) (ci := 11) (k := 34) (by decide +kernel) lf_RX12_76 rfl (fun q hq => by cases hq; exact Or.inr ⟨rfl, rfl, rfl⟩) c296 c295 ?_
  obtain ⟨σ297, eσ297, h⟩ := nm_el h
  refine RN_nmS eσ297 ?_
  refine RN_aload_n (pc := 176) (k := 0) (by decide +kernel) rfl rfl ?_
  refine RN_sipush (pc := 177) (n := 384) (v := 384) (by decide +kernel) (by decide) ?_
  refine RN_newa (pc := 180) (atype := .long) (N := 384) (t := 14) (by decide +kernel) ⟨by decide, by decide, rfl⟩ ac_14 (by decide) (by decide) (by decide) ?_
  obtain ⟨r298, er298, h⟩ := nm_el h
  refine RN_nmR er298 ?_
  obtain ⟨σ299, eσ299, h⟩ := nm_el h
  refine RN_nmS eσ299 ?_
  obtain ⟨c300, h⟩ := ck_el h
  obtain ⟨c301, h⟩ := ck_el h
  refine RN_putR (pc := 182) (idx := 79) (ci := 11) (k := 35) (by decide +kernel) lf_RX12_79 rfl (fun q hq => by cases hq; exact Or.inr ⟨rfl, rfl, rfl⟩) c301 c300 ?_
  obtain ⟨σ302, eσ302, h⟩ := nm_el h
  refine RN_nmS eσ302 ?_
  refine RN_aload_n (pc := 185) (k := 0) (by decide +kernel) rfl rfl ?_
  refine RN_bipush (pc := 186) (n := 6) (v := 6) (by decide +kernel) (by decide) ?_
  refine RN_newa (pc := 188) (atype := .int) (N := 6) (t := 13) (by decide +kernel) ⟨by decide, by decide, rfl⟩ ac_13 (by decide) (by decide) (by decide) ?_
  obtain ⟨r303, er303, h⟩ := nm_el h
  refine RN_nmR er303 ?_
  obtain ⟨σ304, eσ304, h⟩ := nm_el h
  refine RN_nmS eσ304 ?_
  obtain ⟨c305, h⟩ := ck_el h
  obtain ⟨c306, h⟩ := ck_el h
  refine RN_putR (pc := 190) (idx := 82) (ci := 11) (k := 36) (by decide +kernel) lf_RX12_82 rfl (fun q hq => by cases hq; exact Or.inr ⟨rfl, rfl, rfl⟩) c306 c305 ?_
  obtain ⟨σ307, eσ307, h⟩ := nm_el h
  refine RN_nmS eσ307 ?_
  refine RN_aload_n (pc := 193) (k := 0) (by decide +kernel) rfl rfl ?_
  refine RN_bipush (pc := 194) (n := 6) (v := 6) (by decide +kernel) (by decide) ?_
  refine RN_newa (pc := 196) (atype := .int) (N := 6) (t := 13) (by decide +kernel) ⟨by decide, by decide, rfl⟩ ac_13 (by decide) (by decide) (by decide) ?_
  obtain ⟨r308, er308, h⟩ := nm_el h
  refine RN_nmR er308 ?_
  obtain ⟨σ309, eσ309, h⟩ := nm_el h
  refine RN_nmS eσ309 ?_
  obtain ⟨c310, h⟩ := ck_el h
  obtain ⟨c311, h⟩ := ck_el h
  refine RN_putR (pc := 198) (idx := 85) (ci := 11) (k := 37) (by decide +kernel) lf_RX12_85 rfl (fun q hq => by cases hq; exact Or.inr ⟨rfl, rfl, rfl⟩) c311 c310 ?_
  obtain ⟨σ312, eσ312, h⟩ := nm_el h
  refine RN_nmS eσ312 ?_
  refine RN_aload_n (pc := 201) (k := 0) (by decide +kernel) rfl rfl ?_
  refine RN_bipush (pc := 202) (n := 48) (v := 48) (by decide +kernel) (by decide) ?_
  refine RN_newa (pc := 204) (atype := .long) (N := 48) (t := 14) (by decide +kernel) ⟨by decide, by decide, rfl⟩ ac_14 (by decide) (by decide) (by decide) ?_
  obtain ⟨r313, er313, h⟩ := nm_el h
  refine RN_nmR er313 ?_
  obtain ⟨σ314, eσ314, h⟩ := nm_el h
  refine RN_nmS eσ314 ?_
  obtain ⟨c315, h⟩ := ck_el h
  obtain ⟨c316, h⟩ := ck_el h
  refine RN_putR (pc := 206) (idx := 88) (ci := 11) (k := 38) (by decide +kernel) lf_RX12_88 rfl (fun q hq => by cases hq; exact Or.inr ⟨rfl, rfl, rfl⟩) c316 c315 ?_
  obtain ⟨σ317, eσ317, h⟩ := nm_el h
  refine RN_nmS eσ317 ?_
  refine RN_aload_n (pc := 209) (k := 0) (by decide +kernel) rfl rfl ?_
  refine RN_bipush (pc := 210) (n := 24) (v := 24) (by decide +kernel) (by decide) ?_
  refine RN_newa (pc := 212) (atype := .long) (N := 24) (t := 14) (by decide +kernel) ⟨by decide, by decide, rfl⟩ ac_14 (by decide) (by decide) (by decide) ?_
  obtain ⟨r318, er318, h⟩ := nm_el h
  refine RN_nmR er318 ?_
  obtain ⟨σ319, eσ319, h⟩ := nm_el h
  refine RN_nmS eσ319 ?_
  obtain ⟨c320, h⟩ := ck_el h
  obtain ⟨c321, h⟩ := ck_el h
  refine RN_putR (pc := 214) (idx := 91) (ci := 11) (k := 39) (by decide +kernel) lf_RX12_91 rfl (fun q hq => by cases hq; exact Or.inr ⟨rfl, rfl, rfl⟩) c321 c320 ?_
  obtain ⟨σ322, eσ322, h⟩ := nm_el h
  refine RN_nmS eσ322 ?_
  refine RN_aload_n (pc := 217) (k := 0) (by decide +kernel) rfl rfl ?_
  refine RN_bipush (pc := 218) (n := 24) (v := 24) (by decide +kernel) (by decide) ?_
  refine RN_newa (pc := 220) (atype := .long) (N := 24) (t := 14) (by decide +kernel) ⟨by decide, by decide, rfl⟩ ac_14 (by decide) (by decide) (by decide) ?_
  obtain ⟨r323, er323, h⟩ := nm_el h
  refine RN_nmR er323 ?_
  obtain ⟨σ324, eσ324, h⟩ := nm_el h
  refine RN_nmS eσ324 ?_
  obtain ⟨c325, h⟩ := ck_el h
  obtain ⟨c326, h⟩ := ck_el h
  refine RN_putR (pc := 222) (idx := 94) (ci := 11) (k := 40) (by decide +kernel) lf_RX12_94 rfl (fun q hq => by cases hq; exact Or.inr ⟨rfl, rfl, rfl⟩) c326 c325 ?_
  obtain ⟨σ327, eσ327, h⟩ := nm_el h
  refine RN_nmS eσ327 ?_
  refine RN_aload_n (pc := 225) (k := 0) (by decide +kernel) rfl rfl ?_
  refine RN_bipush (pc := 226) (n := 8) (v := 8) (by decide +kernel) (by decide) ?_
  refine RN_newa (pc := 228) (atype := .long) (N := 8) (t := 14) (by decide +kernel) ⟨by decide, by decide, rfl⟩ ac_14 (by decide) (by decide) (by decide) ?_
  obtain ⟨r328, er328, h⟩ := nm_el h
  refine RN_nmR er328 ?_
  obtain ⟨σ329, eσ329, h⟩ := nm_el h
  refine RN_nmS eσ329 ?_
  obtain ⟨c330, h⟩ := ck_el h
  obtain ⟨c331, h⟩ := ck_el h
  refine RN_putR (pc := 230) (idx := 97) (ci := 11) (k := 41) (by decide +kernel) lf_RX12_97 rfl (fun q hq => by cases hq; exact Or.inr ⟨rfl, rfl, rfl⟩) c331 c330 ?_
  obtain ⟨σ332, eσ332, h⟩ := nm_el h
  refine RN_nmS eσ332 ?_
  refine RN_aload_n (pc := 233) (k := 0) (by decide +kernel) rfl rfl ?_
  refine RN_bipush (pc := 234) (n := 8) (v := 8) (by decide +kernel) (by decide) ?_
  refine RN_newa (pc := 236) (atype := .long) (N := 8) (t := 14) (by decide +kernel) ⟨by decide, by decide, rfl⟩ ac_14 (by decide) (by decide) (by decide) ?_
  obtain ⟨r333, er333, h⟩ := nm_el h
  refine RN_nmR er333 ?_
  obtain ⟨σ334, eσ334, h⟩ := nm_el h
  refine RN_nmS eσ334 ?_
  obtain ⟨c335, h⟩ := ck_el h
  obtain ⟨c336, h⟩ := ck_el h
  refine RN_putR (pc := 238) (idx := 100) (ci := 11) (k := 42) (by decide +kernel) lf_RX12_100 rfl (fun q hq => by cases hq; exact Or.inr ⟨rfl, rfl, rfl⟩) c336 c335 ?_
  obtain ⟨σ337, eσ337, h⟩ := nm_el h
  refine RN_nmS eσ337 ?_
  refine RN_aload_n (pc := 241) (k := 0) (by decide +kernel) rfl rfl ?_
  refine RN_bipush (pc := 242) (n := 8) (v := 8) (by decide +kernel) (by decide) ?_
  refine RN_newa (pc := 244) (atype := .double) (N := 8) (t := 12) (by decide +kernel) ⟨by decide, by decide, rfl⟩ ac_12 (by decide) (by decide) (by decide) ?_
  obtain ⟨r338, er338, h⟩ := nm_el h
  refine RN_nmR er338 ?_
  obtain ⟨σ339, eσ339, h⟩ := nm_el h
  refine RN_nmS eσ339 ?_
  obtain ⟨c340, h⟩ := ck_el h
  obtain ⟨c341, h⟩ := ck_el h
  refine RN_putR (pc := 246) (idx := 103) (ci := 11) (k := 43) (by decide +kernel) lf_RX12_103 rfl (fun q hq => by cases hq; exact Or.inr ⟨rfl, rfl, rfl⟩) c341 c340 ?_
  obtain ⟨σ342, eσ342, h⟩ := nm_el h
  refine RN_nmS eσ342 ?_
  refine RN_aload_n (pc := 249) (k := 0) (by decide +kernel) rfl rfl ?_
  refine RN_bipush (pc := 250) (n := 8) (v := 8) (by decide +kernel) (by decide) ?_
  refine RN_newa (pc := 252) (atype := .double) (N := 8) (t := 12) (by decide +kernel) ⟨by decide, by decide, rfl⟩ ac_12 (by decide) (by decide) (by decide) ?_
  obtain ⟨r343, er343, h⟩ := nm_el h
  refine RN_nmR er343 ?_
  obtain ⟨σ344, eσ344, h⟩ := nm_el h
  refine RN_nmS eσ344 ?_
  obtain ⟨c345, h⟩ := ck_el h
  obtain ⟨c346, h⟩ := ck_el h
  refine RN_putR (pc := 254) (idx := 107) (ci := 11) (k := 44) (by decide +kernel) lf_RX12_107 rfl (fun q hq => by cases hq; exact Or.inr ⟨rfl, rfl, rfl⟩) c346 c345 ?_
  obtain ⟨σ347, eσ347, h⟩ := nm_el h
  refine RN_nmS eσ347 ?_
  refine RN_aload_n (pc := 257) (k := 0) (by decide +kernel) rfl rfl ?_
  refine RN_bipush (pc := 258) (n := 6) (v := 6) (by decide +kernel) (by decide) ?_
  refine RN_newa (pc := 260) (atype := .int) (N := 6) (t := 13) (by decide +kernel) ⟨by decide, by decide, rfl⟩ ac_13 (by decide) (by decide) (by decide) ?_
  obtain ⟨r348, er348, h⟩ := nm_el h
  refine RN_nmR er348 ?_
  obtain ⟨σ349, eσ349, h⟩ := nm_el h
  refine RN_nmS eσ349 ?_
  obtain ⟨c350, h⟩ := ck_el h
  obtain ⟨c351, h⟩ := ck_el h
  refine RN_putR (pc := 262) (idx := 110) (ci := 11) (k := 46) (by decide +kernel) lf_RX12_110 rfl (fun q hq => by cases hq; exact Or.inr ⟨rfl, rfl, rfl⟩) c351 c350 ?_
  obtain ⟨σ352, eσ352, h⟩ := nm_el h
  refine RN_nmS eσ352 ?_
  refine RN_aload_n (pc := 265) (k := 0) (by decide +kernel) rfl rfl ?_
  refine RN_bipush (pc := 266) (n := 12) (v := 12) (by decide +kernel) (by decide) ?_
  refine RN_newa (pc := 268) (atype := .long) (N := 12) (t := 14) (by decide +kernel) ⟨by decide, by decide, rfl⟩ ac_14 (by decide) (by decide) (by decide) ?_
  obtain ⟨r353, er353, h⟩ := nm_el h
  refine RN_nmR er353 ?_
  obtain ⟨σ354, eσ354, h⟩ := nm_el h
  refine RN_nmS eσ354 ?_
  obtain ⟨c355, h⟩ := ck_el h
  obtain ⟨c356, h⟩ := ck_el h
  refine RN_putR (pc := 270) (idx := 113) (ci := 11) (k := 47) (by decide +kernel) lf_RX12_113 rfl (fun q hq => by cases hq; exact Or.inr ⟨rfl, rfl, rfl⟩) c356 c355 ?_
  obtain ⟨σ357, eσ357, h⟩ := nm_el h
  refine RN_nmS eσ357 ?_
  refine RN_aload_n (pc := 273) (k := 0) (by decide +kernel) rfl rfl ?_
  refine RN_sipush (pc := 274) (n := 200) (v := 200) (by decide +kernel) (by decide) ?_
  refine RN_newa (pc := 277) (atype := .long) (N := 200) (t := 14) (by decide +kernel) ⟨by decide, by decide, rfl⟩ ac_14 (by decide) (by decide) (by decide) ?_
  obtain ⟨r358, er358, h⟩ := nm_el h
  refine RN_nmR er358 ?_
  obtain ⟨σ359, eσ359, h⟩ := nm_el h
  refine RN_nmS eσ359 ?_
  obtain ⟨c360, h⟩ := ck_el h
  obtain ⟨c361, h⟩ := ck_el h
  refine RN_putR (pc := 279) (idx := 116) (ci := 11) (k := 48) (by decide +kernel) lf_RX12_116 rfl (fun q hq => by cases hq; exact Or.inr ⟨rfl, rfl, rfl⟩) c361 c360 ?_
  obtain ⟨σ362, eσ362, h⟩ := nm_el h
  refine RN_nmS eσ362 ?_
  refine RN_aload_n (pc := 282) (k := 0) (by decide +kernel) rfl rfl ?_
  refine RN_sipush (pc := 283) (n := 200) (v := 200) (by decide +kernel) (by decide) ?_
  refine RN_newa (pc := 286) (atype := .long) (N := 200) (t := 14) (by decide +kernel) ⟨by decide, by decide, rfl⟩ ac_14 (by decide) (by decide) (by decide) ?_
  obtain ⟨r363, er363, h⟩ := nm_el h
  refine RN_nmR er363 ?_
  obtain ⟨σ364, eσ364, h⟩ := nm_el h
  refine RN_nmS eσ364 ?_
  obtain ⟨c365, h⟩ := ck_el h
  obtain ⟨c366, h⟩ := ck_el h
  refine RN_putR (pc := 288) (idx := 119) (ci := 11) (k := 49) (by decide +kernel) lf_RX12_119 rfl (fun q hq => by cases hq; exact Or.inr ⟨rfl, rfl, rfl⟩) c366 c365 ?_
  obtain ⟨σ367, eσ367, h⟩ := nm_el h
  refine RN_nmS eσ367 ?_
  refine RN_aload_n (pc := 291) (k := 0) (by decide +kernel) rfl rfl ?_
  refine RN_sipush (pc := 292) (n := 200) (v := 200) (by decide +kernel) (by decide) ?_
  refine RN_newa (pc := 295) (atype := .boolean) (N := 200) (t := 15) (by decide +kernel) ⟨by decide, by decide, rfl⟩ ac_15 (by decide) (by decide) (by decide) ?_
  obtain ⟨r368, er368, h⟩ := nm_el h
  refine RN_nmR er368 ?_
  obtain ⟨σ369, eσ369, h⟩ := nm_el h
  refine RN_nmS eσ369 ?_
  obtain ⟨c370, h⟩ := ck_el h
  obtain ⟨c371, h⟩ := ck_el h
  refine RN_putR (pc := 297) (idx := 122) (ci := 11) (k := 50) (by decide +kernel) lf_RX12_122 rfl (fun q hq => by cases hq; exact Or.inr ⟨rfl, rfl, rfl⟩) c371 c370 ?_
  obtain ⟨σ372, eσ372, h⟩ := nm_el h
  refine RN_nmS eσ372 ?_
  refine RN_aload_n (pc := 300) (k := 0) (by decide +kernel) rfl rfl ?_
  refine RN_bipush (pc := 301) (n := 64) (v := 64) (by decide +kernel) (by decide) ?_
  refine RN_newa (pc := 303) (atype := .long) (N := 64) (t := 14) (by decide +kernel) ⟨by decide, by decide, rfl⟩ ac_14 (by decide) (by decide) (by decide) ?_
  obtain ⟨r373, er373, h⟩ := nm_el h
  refine RN_nmR er373 ?_
  obtain ⟨σ374, eσ374, h⟩ := nm_el h
  refine RN_nmS eσ374 ?_
  obtain ⟨c375, h⟩ := ck_el h
  obtain ⟨c376, h⟩ := ck_el h
  refine RN_putR (pc := 305) (idx := 125) (ci := 11) (k := 51) (by decide +kernel) lf_RX12_125 rfl (fun q hq => by cases hq; exact Or.inr ⟨rfl, rfl, rfl⟩) c376 c375 ?_
  obtain ⟨σ377, eσ377, h⟩ := nm_el h
  refine RN_nmS eσ377 ?_
  refine RN_aload_n (pc := 308) (k := 0) (by decide +kernel) rfl rfl ?_
  obtain ⟨c378, h⟩ := ck_el h
  obtain ⟨σ380, f379, h⟩ := bp_el h
  refine RN_callV (M := M_X12_init) (pc := 309) (idx := 128) (as := []) (st := []) (t_X12_resets f379) (by decide +kernel) lk_RX12_128 rfl ⟨by decide, fun q hq => by cases hq; rfl⟩ c378 (Nat.le_of_ble_eq_true rfl) ⟨Nat.le_of_ble_eq_true rfl, Nat.le_of_ble_eq_true rfl⟩ rfl ?_
  show RN G M_X12_init 312 [some (.ref v0)] [] σ380 _ _
  obtain rfl := some_el h
  exact RN_return (by decide +kernel) rfl
def f_X12_thrown (v0 : Nat) (σ : Sg) : Option Int32 :=
  ck (okO σ v0 11) <|
  some (gI σ v0 0)
set_option maxRecDepth 20000 in
theorem t_X12_thrown {G : Gl} {xr : Int32} {v0 : Nat} {σ : Sg} (h : f_X12_thrown v0 σ = some xr) : MT G M_X12_thrown [.ref v0] σ (some (.int xr)) σ := by
  refine MT_of rfl rfl (Nat.le_of_ble_eq_true rfl) ?_
  show RN G M_X12_thrown 0 [some (.ref v0)] [] σ (.inl (some (.int xr))) σ
  unfold f_X12_thrown at h
  refine RN_aload_n (pc := 0) (k := 0) (by decide +kernel) rfl rfl ?_
  obtain ⟨c2, h⟩ := ck_el h
  refine RN_getI (pc := 1) (idx := 131) (ci := 11) (k := 0) (by decide +kernel) lf_RX12_131 (Or.inl rfl) c2 ?_
  obtain rfl := some_el h
  exact RN_ireturn (by decide +kernel) rfl
def b_X12_in_14 : Option Int32 :=
  some (0 : Int32)
set_option maxRecDepth 20000 in
theorem tb_X12_in_14 {G : Gl} {xr : Int32} {σ : Sg} (h : b_X12_in_14 = some xr) : RN G M_X12_in 14 [] [] σ (.inl (some (.int xr))) σ := by
  unfold b_X12_in_14 at h
  refine RN_iconst (pc := 14) (n := 0) (v := 0) (by decide +kernel) (by decide) ?_
  obtain rfl := some_el h
  exact RN_zreturn (by decide +kernel) rfl (Or.inl rfl)
def f_X12_in (v0 : Int32) (v1 : Int32) (v2 : Int32) : Option Int32 :=
  if v0 < v1 then (
    b_X12_in_14)
  else (
    if v2 < v0 then (
      b_X12_in_14)
    else (
      some (1 : Int32)))
set_option maxRecDepth 20000 in
theorem t_X12_in {G : Gl} {xr : Int32} {v0 : Int32} {v1 : Int32} {v2 : Int32} {σ : Sg} (h : f_X12_in v0 v1 v2 = some xr) : MT G M_X12_in [.int v0, .int v1, .int v2] σ (some (.int xr)) σ := by
  refine MT_of rfl rfl (Nat.le_of_ble_eq_true rfl) ?_
  show RN G M_X12_in 0 [some (.int v0), some (.int v1), some (.int v2)] [] σ (.inl (some (.int xr))) σ
  unfold f_X12_in at h
  refine RN_iload_n (pc := 0) (k := 0) (by decide +kernel) rfl rfl ?_
  refine RN_iload_n (pc := 1) (k := 1) (by decide +kernel) rfl rfl ?_
  refine RN_icmp_lt (pc := 2) (off := 12) (tgt := 14) (by decide +kernel) (by decide) (fun c1 => ?_) (fun c1 => ?_)
  · replace h := it_t c1 h
    exact RN_weak (l := []) trivial (tb_X12_in_14  h)
  · replace h := it_f c1 h
    refine RN_iload_n (pc := 5) (k := 0) (by decide +kernel) rfl rfl ?_
    refine RN_iload_n (pc := 6) (k := 2) (by decide +kernel) rfl rfl ?_
    refine RN_icmp_gt (pc := 7) (off := 7) (tgt := 14) (by decide +kernel) (by decide) (fun c2 => ?_) (fun c2 => ?_)
    · replace h := it_t c2 h
      exact RN_weak (l := []) trivial (tb_X12_in_14  h)
    · replace h := it_f c2 h
      refine RN_iconst (pc := 10) (n := 1) (v := 1) (by decide +kernel) (by decide) ?_
      refine RN_goto (pc := 11) (off := 4) (tgt := 15) (by decide +kernel) (by decide) ?_
      obtain rfl := some_el h
      exact RN_zreturn (by decide +kernel) rfl (Or.inr rfl)
def f_X12_refuse (v0 : Nat) (v1 : Int32) (σ : Sg) : Option (Int32 × Sg) :=
  ck (okO σ v0 11) <|
  nm (pI σ v0 15 ((gI σ v0 15) + (1 : Int32))) fun σ4 =>
  some (v1, σ4)
set_option maxRecDepth 20000 in
theorem t_X12_refuse {G : Gl} {xr : Int32} {σr : Sg} {v0 : Nat} {v1 : Int32} {σ : Sg} (h : f_X12_refuse v0 v1 σ = some (xr, σr)) : MT G M_X12_refuse [.ref v0, .int v1] σ (some (.int xr)) σr := by
  refine MT_of rfl rfl (Nat.le_of_ble_eq_true rfl) ?_
  show RN G M_X12_refuse 0 [some (.ref v0), some (.int v1)] [] σ (.inl (some (.int xr))) σr
  unfold f_X12_refuse at h
  refine RN_aload_n (pc := 0) (k := 0) (by decide +kernel) rfl rfl ?_
  refine RN_dup (pc := 1) (by decide +kernel) rfl ?_
  obtain ⟨c3, h⟩ := ck_el h
  refine RN_getI (pc := 2) (idx := 134) (ci := 11) (k := 15) (by decide +kernel) lf_RX12_134 (Or.inl rfl) c3 ?_
  refine RN_iconst (pc := 5) (n := 1) (v := 1) (by decide +kernel) (by decide) ?_
  refine RN_iadd (pc := 6) (by decide +kernel) ?_
  refine RN_putI (pc := 7) (idx := 134) (ci := 11) (k := 15) (by decide +kernel) lf_RX12_134 rfl (fun q hq => by cases hq; exact Or.inl rfl) c3 ?_
  obtain ⟨σ4, eσ4, h⟩ := nm_el h
  refine RN_nmS eσ4 ?_
  refine RN_iload_n (pc := 10) (k := 1) (by decide +kernel) rfl rfl ?_
  obtain ⟨rfl, rfl⟩ := some_el2 h
  exact RN_ireturn (by decide +kernel) rfl
def f_X12_begin (n : Nat) (v0 : Nat) (σ : Sg) : Option (Int32 × Sg) :=
  ck (okO σ v0 11) <|
  bp (f_X12_resets n v0 σ) fun σ6 =>
  some ((0 : Int32), σ6)
set_option maxRecDepth 20000 in
theorem t_X12_begin {G : Gl} {xr : Int32} {σr : Sg} {n : Nat} {v0 : Nat} {σ : Sg} (h : f_X12_begin n v0 σ = some (xr, σr)) : MT G M_X12_begin [.ref v0] σ (some (.int xr)) σr := by
  refine MT_of rfl rfl (Nat.le_of_ble_eq_true rfl) ?_
  show RN G M_X12_begin 0 [some (.ref v0)] [] σ (.inl (some (.int xr))) σr
  unfold f_X12_begin at h
  refine RN_aload_n (pc := 0) (k := 0) (by decide +kernel) rfl rfl ?_
  obtain ⟨c4, h⟩ := ck_el h
  obtain ⟨σ6, f5, h⟩ := bp_el h
  refine RN_callV (M := M_X12_begin) (pc := 1) (idx := 128) (as := []) (st := []) (t_X12_resets f5) (by decide +kernel) lk_RX12_128 rfl ⟨by decide, fun q hq => by cases hq; rfl⟩ c4 (Nat.le_of_ble_eq_true rfl) ⟨Nat.le_of_ble_eq_true rfl, Nat.le_of_ble_eq_true rfl⟩ rfl ?_
  show RN G M_X12_begin 4 [some (.ref v0)] [] σ6 _ _
  refine RN_iconst (pc := 4) (n := 0) (v := 0) (by decide +kernel) (by decide) ?_
  obtain ⟨rfl, rfl⟩ := some_el2 h
  exact RN_ireturn (by decide +kernel) rfl
def f_X12_rate (v0 : Nat) (v1 : Int32) (v2 : Int32) (v3 : Int32) (σ : Sg) : Option (Int32 × Sg) :=
  bp (f_X12_in v1 (0 : Int32) (7 : Int32)) fun x18 =>
  if x18 = 0 then (
    some ((-1 : Int32), σ))
  else (
    bp (f_X12_in v2 (0 : Int32) (10000 : Int32)) fun x21 =>
    if x21 = 0 then (
      some ((-1 : Int32), σ))
    else (
      bp (f_X12_in v3 (1 : Int32) (1000 : Int32)) fun x24 =>
      if x24 = 0 then (
        some ((-1 : Int32), σ))
      else (
        ck (okO σ v0 11) <|
        ck (¬ gR σ v0 1 = 0) <|
        nm (gR σ v0 1) fun r28 =>
        ck (okW σ r28 13 v1) <|
        nm (pI σ r28 v1.toNatClampNeg v2) fun σ30 =>
        ck (okO σ30 v0 11) <|
        ck (¬ gR σ30 v0 2 = 0) <|
        nm (gR σ30 v0 2) fun r33 =>
        ck (okW σ30 r33 13 v1) <|
        nm (pI σ30 r33 v1.toNatClampNeg v3) fun σ35 =>
        some ((0 : Int32), σ35))))
set_option maxRecDepth 20000 in
theorem t_X12_rate {G : Gl} {xr : Int32} {σr : Sg} {v0 : Nat} {v1 : Int32} {v2 : Int32} {v3 : Int32} {σ : Sg} (h : f_X12_rate v0 v1 v2 v3 σ = some (xr, σr)) : MT G M_X12_rate [.ref v0, .int v1, .int v2, .int v3] σ (some (.int xr)) σr := by
  refine MT_of rfl rfl (Nat.le_of_ble_eq_true rfl) ?_
  show RN G M_X12_rate 0 [some (.ref v0), some (.int v1), some (.int v2), some (.int v3)] [] σ (.inl (some (.int xr))) σr
  unfold f_X12_rate at h
  refine RN_iload_n (pc := 0) (k := 1) (by decide +kernel) rfl rfl ?_
  refine RN_iconst (pc := 1) (n := 0) (v := 0) (by decide +kernel) (by decide) ?_
  refine RN_bipush (pc := 2) (n := 7) (v := 7) (by decide +kernel) (by decide) ?_
  obtain ⟨x18, f17, h⟩ := bp_el h
  refine RN_callS (M := M_X12_rate) (pc := 4) (idx := 159) (as := [.int v1, .int (0 : Int32), .int (7 : Int32)]) (st := []) (t_X12_in f17) (by decide +kernel) lk_RX12_159 rfl (Nat.le_of_ble_eq_true rfl) ⟨Nat.le_of_ble_eq_true rfl, Nat.le_of_ble_eq_true rfl⟩ rfl ?_
  show RN G M_X12_rate 7 [some (.ref v0), some (.int v1), some (.int v2), some (.int v3)] [.int x18] σ _ _
  refine RN_if_eq (pc := 7) (off := 25) (tgt := 32) (by decide +kernel) (by decide) (fun c19 => ?_) (fun c19 => ?_)
  · replace h := it_t c19 h
    refine RN_iconst (pc := 32) (n := -1) (v := -1) (by decide +kernel) (by decide) ?_
    obtain ⟨rfl, rfl⟩ := some_el2 h
    exact RN_ireturn (by decide +kernel) rfl
  · replace h := it_f c19 h
    refine RN_iload_n (pc := 10) (k := 2) (by decide +kernel) rfl rfl ?_
    refine RN_iconst (pc := 11) (n := 0) (v := 0) (by decide +kernel) (by decide) ?_
    refine RN_sipush (pc := 12) (n := 10000) (v := 10000) (by decide +kernel) (by decide) ?_
    obtain ⟨x21, f20, h⟩ := bp_el h
    refine RN_callS (M := M_X12_rate) (pc := 15) (idx := 159) (as := [.int v2, .int (0 : Int32), .int (10000 : Int32)]) (st := []) (t_X12_in f20) (by decide +kernel) lk_RX12_159 rfl (Nat.le_of_ble_eq_true rfl) ⟨Nat.le_of_ble_eq_true rfl, Nat.le_of_ble_eq_true rfl⟩ rfl ?_
    show RN G M_X12_rate 18 [some (.ref v0), some (.int v1), some (.int v2), some (.int v3)] [.int x21] σ _ _
    refine RN_if_eq (pc := 18) (off := 14) (tgt := 32) (by decide +kernel) (by decide) (fun c22 => ?_) (fun c22 => ?_)
    · replace h := it_t c22 h
      refine RN_iconst (pc := 32) (n := -1) (v := -1) (by decide +kernel) (by decide) ?_
      obtain ⟨rfl, rfl⟩ := some_el2 h
      exact RN_ireturn (by decide +kernel) rfl
    · replace h := it_f c22 h
      refine RN_iload_n (pc := 21) (k := 3) (by decide +kernel) rfl rfl ?_
      refine RN_iconst (pc := 22) (n := 1) (v := 1) (by decide +kernel) (by decide) ?_
      refine RN_sipush (pc := 23) (n := 1000) (v := 1000) (by decide +kernel) (by decide) ?_
      obtain ⟨x24, f23, h⟩ := bp_el h
      refine RN_callS (M := M_X12_rate) (pc := 26) (idx := 159) (as := [.int v3, .int (1 : Int32), .int (1000 : Int32)]) (st := []) (t_X12_in f23) (by decide +kernel) lk_RX12_159 rfl (Nat.le_of_ble_eq_true rfl) ⟨Nat.le_of_ble_eq_true rfl, Nat.le_of_ble_eq_true rfl⟩ rfl ?_
      show RN G M_X12_rate 29 [some (.ref v0), some (.int v1), some (.int v2), some (.int v3)] [.int x24] σ _ _
      refine RN_if_ne (pc := 29) (off := 5) (tgt := 34) (by decide +kernel) (by decide) (fun c25 => ?_) (fun c25 => ?_)
      · replace h := it_f c25 h
        refine RN_aload_n (pc := 34) (k := 0) (by decide +kernel) rfl rfl ?_
        obtain ⟨c26, h⟩ := ck_el h
        obtain ⟨c27, h⟩ := ck_el h
        refine RN_getR (pc := 35) (idx := 7) (ci := 11) (k := 1) (by decide +kernel) lf_RX12_7 rfl c26 c27 ?_
        obtain ⟨r28, er28, h⟩ := nm_el h
        refine RN_nmR er28 ?_
        refine RN_iload_n (pc := 38) (k := 1) (by decide +kernel) rfl rfl ?_
        refine RN_iload_n (pc := 39) (k := 2) (by decide +kernel) rfl rfl ?_
        obtain ⟨c29, h⟩ := ck_el h
        refine RN_iast (pc := 40) (by decide +kernel) c29 ?_
        obtain ⟨σ30, eσ30, h⟩ := nm_el h
        refine RN_nmS eσ30 ?_
        refine RN_aload_n (pc := 41) (k := 0) (by decide +kernel) rfl rfl ?_
        obtain ⟨c31, h⟩ := ck_el h
        obtain ⟨c32, h⟩ := ck_el h
        refine RN_getR (pc := 42) (idx := 13) (ci := 11) (k := 2) (by decide +kernel) lf_RX12_13 rfl c31 c32 ?_
        obtain ⟨r33, er33, h⟩ := nm_el h
        refine RN_nmR er33 ?_
        refine RN_iload_n (pc := 45) (k := 1) (by decide +kernel) rfl rfl ?_
        refine RN_iload_n (pc := 46) (k := 3) (by decide +kernel) rfl rfl ?_
        obtain ⟨c34, h⟩ := ck_el h
        refine RN_iast (pc := 47) (by decide +kernel) c34 ?_
        obtain ⟨σ35, eσ35, h⟩ := nm_el h
        refine RN_nmS eσ35 ?_
        refine RN_iconst (pc := 48) (n := 0) (v := 0) (by decide +kernel) (by decide) ?_
        obtain ⟨rfl, rfl⟩ := some_el2 h
        exact RN_ireturn (by decide +kernel) rfl
      · replace h := it_t c25 h
        refine RN_iconst (pc := 32) (n := -1) (v := -1) (by decide +kernel) (by decide) ?_
        obtain ⟨rfl, rfl⟩ := some_el2 h
        exact RN_ireturn (by decide +kernel) rfl
def b_X12_isLine_20 : Option Int32 :=
  some (0 : Int32)
set_option maxRecDepth 20000 in
theorem tb_X12_isLine_20 {G : Gl} {xr : Int32} {σ : Sg} (h : b_X12_isLine_20 = some xr) : RN G M_X12_isLine 20 [] [] σ (.inl (some (.int xr))) σ := by
  unfold b_X12_isLine_20 at h
  refine RN_iconst (pc := 20) (n := 0) (v := 0) (by decide +kernel) (by decide) ?_
  obtain rfl := some_el h
  exact RN_zreturn (by decide +kernel) rfl (Or.inl rfl)
def f_X12_isLine (v0 : Int64) : Option Int32 :=
  if v0 < (-1000000 : Int64) then (
    b_X12_isLine_20)
  else (
    if (1000000 : Int64) < v0 then (
      b_X12_isLine_20)
    else (
      some (1 : Int32)))
set_option maxRecDepth 20000 in
theorem t_X12_isLine {G : Gl} {xr : Int32} {v0 : Int64} {σ : Sg} (h : f_X12_isLine v0 = some xr) : MT G M_X12_isLine [.long v0] σ (some (.int xr)) σ := by
  refine MT_of rfl rfl (Nat.le_of_ble_eq_true rfl) ?_
  show RN G M_X12_isLine 0 [some (.long v0), none] [] σ (.inl (some (.int xr))) σ
  unfold f_X12_isLine at h
  refine RN_lload_n (pc := 0) (k := 0) (by decide +kernel) rfl rfl ?_
  refine RN_ldc2 (pc := 1) (idx := 163) (v := -1000000) (by decide +kernel) kc_RX12_163 ?_
  refine RN_lc_lt (pc := 4) (off := 15) (tgt := 20) (by decide +kernel) (by decide +kernel) (by decide) (fun c1 => ?_) (fun c1 => ?_)
  · replace h := it_t c1 h
    exact RN_weak (l := []) trivial (tb_X12_isLine_20  h)
  · replace h := it_f c1 h
    refine RN_lload_n (pc := 8) (k := 0) (by decide +kernel) rfl rfl ?_
    refine RN_ldc2 (pc := 9) (idx := 165) (v := 1000000) (by decide +kernel) kc_RX12_165 ?_
    refine RN_lc_gt (pc := 12) (off := 7) (tgt := 20) (by decide +kernel) (by decide +kernel) (by decide) (fun c2 => ?_) (fun c2 => ?_)
    · replace h := it_t c2 h
      exact RN_weak (l := []) trivial (tb_X12_isLine_20  h)
    · replace h := it_f c2 h
      refine RN_iconst (pc := 16) (n := 1) (v := 1) (by decide +kernel) (by decide) ?_
      refine RN_goto (pc := 17) (off := 4) (tgt := 21) (by decide +kernel) (by decide) ?_
      obtain rfl := some_el h
      exact RN_zreturn (by decide +kernel) rfl (Or.inr rfl)
def f_X12_line (v0 : Nat) (v1 : Int32) (σ : Sg) : Option (Int32 × Sg) :=
  bp (f_X12_isLine (v1.toInt64)) fun x13 =>
  if x13 = 0 then (
    some ((-1 : Int32), σ))
  else (
    ck (okO σ v0 11) <|
    if (gI σ v0 3) = (12 : Int32) then (
      some ((-2 : Int32), σ))
    else (
      ck (¬ gR σ v0 4 = 0) <|
      nm (gR σ v0 4) fun r18 =>
      ck (okW σ r18 13 (gI σ v0 3)) <|
      nm (pI σ r18 (gI σ v0 3).toNatClampNeg v1) fun σ20 =>
      ck (okO σ20 v0 11) <|
      nm (pI σ20 v0 3 ((gI σ20 v0 3) + (1 : Int32))) fun σ22 =>
      ck (okO σ22 v0 11) <|
      some (gI σ22 v0 3, σ22)))
set_option maxRecDepth 20000 in
theorem t_X12_line {G : Gl} {xr : Int32} {σr : Sg} {v0 : Nat} {v1 : Int32} {σ : Sg} (h : f_X12_line v0 v1 σ = some (xr, σr)) : MT G M_X12_line [.ref v0, .int v1] σ (some (.int xr)) σr := by
  refine MT_of rfl rfl (Nat.le_of_ble_eq_true rfl) ?_
  show RN G M_X12_line 0 [some (.ref v0), some (.int v1)] [] σ (.inl (some (.int xr))) σr
  unfold f_X12_line at h
  refine RN_iload_n (pc := 0) (k := 1) (by decide +kernel) rfl rfl ?_
  refine RN_i2l (pc := 1) (by decide +kernel) ?_
  obtain ⟨x13, f12, h⟩ := bp_el h
  refine RN_callS (M := M_X12_line) (pc := 2) (idx := 167) (as := [.long (v1.toInt64)]) (st := []) (t_X12_isLine f12) (by decide +kernel) lk_RX12_167 rfl (Nat.le_of_ble_eq_true rfl) ⟨Nat.le_of_ble_eq_true rfl, Nat.le_of_ble_eq_true rfl⟩ rfl ?_
  show RN G M_X12_line 5 [some (.ref v0), some (.int v1)] [.int x13] σ _ _
  refine RN_if_ne (pc := 5) (off := 5) (tgt := 10) (by decide +kernel) (by decide) (fun c14 => ?_) (fun c14 => ?_)
  · replace h := it_f c14 h
    refine RN_aload_n (pc := 10) (k := 0) (by decide +kernel) rfl rfl ?_
    obtain ⟨c15, h⟩ := ck_el h
    refine RN_getI (pc := 11) (idx := 137) (ci := 11) (k := 3) (by decide +kernel) lf_RX12_137 (Or.inl rfl) c15 ?_
    refine RN_bipush (pc := 14) (n := 12) (v := 12) (by decide +kernel) (by decide) ?_
    refine RN_icmp_ne (pc := 16) (off := 6) (tgt := 22) (by decide +kernel) (by decide) (fun c16 => ?_) (fun c16 => ?_)
    · replace h := it_f c16 h
      refine RN_aload_n (pc := 22) (k := 0) (by decide +kernel) rfl rfl ?_
      obtain ⟨c17, h⟩ := ck_el h
      refine RN_getR (pc := 23) (idx := 16) (ci := 11) (k := 4) (by decide +kernel) lf_RX12_16 rfl c15 c17 ?_
      obtain ⟨r18, er18, h⟩ := nm_el h
      refine RN_nmR er18 ?_
      refine RN_aload_n (pc := 26) (k := 0) (by decide +kernel) rfl rfl ?_
      refine RN_getI (pc := 27) (idx := 137) (ci := 11) (k := 3) (by decide +kernel) lf_RX12_137 (Or.inl rfl) c15 ?_
      refine RN_iload_n (pc := 30) (k := 1) (by decide +kernel) rfl rfl ?_
      obtain ⟨c19, h⟩ := ck_el h
      refine RN_iast (pc := 31) (by decide +kernel) c19 ?_
      obtain ⟨σ20, eσ20, h⟩ := nm_el h
      refine RN_nmS eσ20 ?_
      refine RN_aload_n (pc := 32) (k := 0) (by decide +kernel) rfl rfl ?_
      refine RN_dup (pc := 33) (by decide +kernel) rfl ?_
      obtain ⟨c21, h⟩ := ck_el h
      refine RN_getI (pc := 34) (idx := 137) (ci := 11) (k := 3) (by decide +kernel) lf_RX12_137 (Or.inl rfl) c21 ?_
      refine RN_iconst (pc := 37) (n := 1) (v := 1) (by decide +kernel) (by decide) ?_
      refine RN_iadd (pc := 38) (by decide +kernel) ?_
      refine RN_putI (pc := 39) (idx := 137) (ci := 11) (k := 3) (by decide +kernel) lf_RX12_137 rfl (fun q hq => by cases hq; exact Or.inl rfl) c21 ?_
      obtain ⟨σ22, eσ22, h⟩ := nm_el h
      refine RN_nmS eσ22 ?_
      refine RN_aload_n (pc := 42) (k := 0) (by decide +kernel) rfl rfl ?_
      obtain ⟨c23, h⟩ := ck_el h
      refine RN_getI (pc := 43) (idx := 137) (ci := 11) (k := 3) (by decide +kernel) lf_RX12_137 (Or.inl rfl) c23 ?_
      obtain ⟨rfl, rfl⟩ := some_el2 h
      exact RN_ireturn (by decide +kernel) rfl
    · replace h := it_t c16 h
      refine RN_bipush (pc := 19) (n := -2) (v := -2) (by decide +kernel) (by decide) ?_
      obtain ⟨rfl, rfl⟩ := some_el2 h
      exact RN_ireturn (by decide +kernel) rfl
  · replace h := it_t c14 h
    refine RN_iconst (pc := 8) (n := -1) (v := -1) (by decide +kernel) (by decide) ?_
    obtain ⟨rfl, rfl⟩ := some_el2 h
    exact RN_ireturn (by decide +kernel) rfl
def f_X12_bare (v0 : Nat) (σ : Sg) : Option (Int32 × Sg) :=
  ck (okO σ v0 11) <|
  nm (gI σ v0 3) fun x5 =>
  nm (pI σ v0 3 (0 : Int32)) fun σ6 =>
  some (x5, σ6)
set_option maxRecDepth 20000 in
theorem t_X12_bare {G : Gl} {xr : Int32} {σr : Sg} {v0 : Nat} {σ : Sg} (h : f_X12_bare v0 σ = some (xr, σr)) : MT G M_X12_bare [.ref v0] σ (some (.int xr)) σr := by
  refine MT_of rfl rfl (Nat.le_of_ble_eq_true rfl) ?_
  show RN G M_X12_bare 0 [some (.ref v0)] [] σ (.inl (some (.int xr))) σr
  unfold f_X12_bare at h
  refine RN_aload_n (pc := 0) (k := 0) (by decide +kernel) rfl rfl ?_
  obtain ⟨c4, h⟩ := ck_el h
  refine RN_getI (pc := 1) (idx := 137) (ci := 11) (k := 3) (by decide +kernel) lf_RX12_137 (Or.inl rfl) c4 ?_
  obtain ⟨x5, ex5, h⟩ := nm_el h
  refine RN_nmI ex5 ?_
  refine RN_istore_n (pc := 4) (k := 1) (ls2 := [some (.ref v0), some (.int x5)]) (by decide +kernel) rfl (by decide) rfl ?_
  refine RN_aload_n (pc := 5) (k := 0) (by decide +kernel) rfl rfl ?_
  refine RN_iconst (pc := 6) (n := 0) (v := 0) (by decide +kernel) (by decide) ?_
  refine RN_putI (pc := 7) (idx := 137) (ci := 11) (k := 3) (by decide +kernel) lf_RX12_137 rfl (fun q hq => by cases hq; exact Or.inl rfl) c4 ?_
  obtain ⟨σ6, eσ6, h⟩ := nm_el h
  refine RN_nmS eσ6 ?_
  refine RN_iload_n (pc := 10) (k := 1) (by decide +kernel) rfl rfl ?_
  obtain ⟨rfl, rfl⟩ := some_el2 h
  exact RN_ireturn (by decide +kernel) rfl
def f_X12_weight (v0 : Nat) (v1 : Int32) (v2 : Int32) (σ : Sg) : Option (Int32 × Sg) :=
  bp (f_X12_in v1 (0 : Int32) (3 : Int32)) fun x33 =>
  if x33 = 0 then (
    some ((-1 : Int32), σ))
  else (
    bp (f_X12_in v2 (-1 : Int32) (1000 : Int32)) fun x36 =>
    if x36 = 0 then (
      some ((-1 : Int32), σ))
    else (
      if v2 = (-1 : Int32) then (
        ck (okO σ v0 11) <|
        ck (¬ gR σ v0 5 = 0) <|
        nm (gR σ v0 5) fun r62 =>
        ck (okW σ r62 13 v1) <|
        nm (pI σ r62 v1.toNatClampNeg (0 : Int32)) fun σ64 =>
        some ((0 : Int32), σ64))
      else (
        ck (okO σ v0 11) <|
        ck (¬ gR σ v0 5 = 0) <|
        nm (gR σ v0 5) fun r41 =>
        ck (okA σ r41 13 v1) <|
        if (gI σ r41 v1.toNatClampNeg) = (8 : Int32) then (
          some ((-2 : Int32), σ))
        else (
          ck (¬ gR σ v0 6 = 0) <|
          nm (gR σ v0 6) fun r45 =>
          nm (gR σ v0 5) fun r46 =>
          ck (okA σ r46 13 v1) <|
          ck (okW σ r45 13 (((8 : Int32) * v1) + (gI σ r46 v1.toNatClampNeg))) <|
          nm (pI σ r45 (((8 : Int32) * v1) + (gI σ r46 v1.toNatClampNeg)).toNatClampNeg v2) fun σ49 =>
          ck (okO σ49 v0 11) <|
          ck (¬ gR σ49 v0 5 = 0) <|
          nm (gR σ49 v0 5) fun r52 =>
          ck (okA σ49 r52 13 v1) <|
          ck (okW σ49 r52 13 v1) <|
          nm (pI σ49 r52 v1.toNatClampNeg ((gI σ49 r52 v1.toNatClampNeg) + (1 : Int32))) fun σ55 =>
          ck (okO σ55 v0 11) <|
          ck (¬ gR σ55 v0 5 = 0) <|
          nm (gR σ55 v0 5) fun r58 =>
          ck (okA σ55 r58 13 v1) <|
          some (gI σ55 r58 v1.toNatClampNeg, σ55)))))
set_option maxRecDepth 20000 in
theorem t_X12_weight {G : Gl} {xr : Int32} {σr : Sg} {v0 : Nat} {v1 : Int32} {v2 : Int32} {σ : Sg} (h : f_X12_weight v0 v1 v2 σ = some (xr, σr)) : MT G M_X12_weight [.ref v0, .int v1, .int v2] σ (some (.int xr)) σr := by
  refine MT_of rfl rfl (Nat.le_of_ble_eq_true rfl) ?_
  show RN G M_X12_weight 0 [some (.ref v0), some (.int v1), some (.int v2)] [] σ (.inl (some (.int xr))) σr
  unfold f_X12_weight at h
  refine RN_iload_n (pc := 0) (k := 1) (by decide +kernel) rfl rfl ?_
  refine RN_iconst (pc := 1) (n := 0) (v := 0) (by decide +kernel) (by decide) ?_
  refine RN_iconst (pc := 2) (n := 3) (v := 3) (by decide +kernel) (by decide) ?_
  obtain ⟨x33, f32, h⟩ := bp_el h
  refine RN_callS (M := M_X12_weight) (pc := 3) (idx := 159) (as := [.int v1, .int (0 : Int32), .int (3 : Int32)]) (st := []) (t_X12_in f32) (by decide +kernel) lk_RX12_159 rfl (Nat.le_of_ble_eq_true rfl) ⟨Nat.le_of_ble_eq_true rfl, Nat.le_of_ble_eq_true rfl⟩ rfl ?_
  show RN G M_X12_weight 6 [some (.ref v0), some (.int v1), some (.int v2)] [.int x33] σ _ _
  refine RN_if_eq (pc := 6) (off := 14) (tgt := 20) (by decide +kernel) (by decide) (fun c34 => ?_) (fun c34 => ?_)
  · replace h := it_t c34 h
    refine RN_iconst (pc := 20) (n := -1) (v := -1) (by decide +kernel) (by decide) ?_
    obtain ⟨rfl, rfl⟩ := some_el2 h
    exact RN_ireturn (by decide +kernel) rfl
  · replace h := it_f c34 h
    refine RN_iload_n (pc := 9) (k := 2) (by decide +kernel) rfl rfl ?_
    refine RN_iconst (pc := 10) (n := -1) (v := -1) (by decide +kernel) (by decide) ?_
    refine RN_sipush (pc := 11) (n := 1000) (v := 1000) (by decide +kernel) (by decide) ?_
    obtain ⟨x36, f35, h⟩ := bp_el h
    refine RN_callS (M := M_X12_weight) (pc := 14) (idx := 159) (as := [.int v2, .int (-1 : Int32), .int (1000 : Int32)]) (st := []) (t_X12_in f35) (by decide +kernel) lk_RX12_159 rfl (Nat.le_of_ble_eq_true rfl) ⟨Nat.le_of_ble_eq_true rfl, Nat.le_of_ble_eq_true rfl⟩ rfl ?_
    show RN G M_X12_weight 17 [some (.ref v0), some (.int v1), some (.int v2)] [.int x36] σ _ _
    refine RN_if_ne (pc := 17) (off := 5) (tgt := 22) (by decide +kernel) (by decide) (fun c37 => ?_) (fun c37 => ?_)
    · replace h := it_f c37 h
      refine RN_iload_n (pc := 22) (k := 2) (by decide +kernel) rfl rfl ?_
      refine RN_iconst (pc := 23) (n := -1) (v := -1) (by decide +kernel) (by decide) ?_
      refine RN_icmp_ne (pc := 24) (off := 12) (tgt := 36) (by decide +kernel) (by decide) (fun c38 => ?_) (fun c38 => ?_)
      · replace h := it_f c38 h
        refine RN_aload_n (pc := 36) (k := 0) (by decide +kernel) rfl rfl ?_
        obtain ⟨c39, h⟩ := ck_el h
        obtain ⟨c40, h⟩ := ck_el h
        refine RN_getR (pc := 37) (idx := 19) (ci := 11) (k := 5) (by decide +kernel) lf_RX12_19 rfl c39 c40 ?_
        obtain ⟨r41, er41, h⟩ := nm_el h
        refine RN_nmR er41 ?_
        refine RN_iload_n (pc := 40) (k := 1) (by decide +kernel) rfl rfl ?_
        obtain ⟨c42, h⟩ := ck_el h
        refine RN_iald (pc := 41) (by decide +kernel) c42 ?_
        refine RN_bipush (pc := 42) (n := 8) (v := 8) (by decide +kernel) (by decide) ?_
        refine RN_icmp_ne (pc := 44) (off := 6) (tgt := 50) (by decide +kernel) (by decide) (fun c43 => ?_) (fun c43 => ?_)
        · replace h := it_f c43 h
          refine RN_aload_n (pc := 50) (k := 0) (by decide +kernel) rfl rfl ?_
          obtain ⟨c44, h⟩ := ck_el h
          refine RN_getR (pc := 51) (idx := 22) (ci := 11) (k := 6) (by decide +kernel) lf_RX12_22 rfl c39 c44 ?_
          obtain ⟨r45, er45, h⟩ := nm_el h
          refine RN_nmR er45 ?_
          refine RN_bipush (pc := 54) (n := 8) (v := 8) (by decide +kernel) (by decide) ?_
          refine RN_iload_n (pc := 56) (k := 1) (by decide +kernel) rfl rfl ?_
          refine RN_imul (pc := 57) (by decide +kernel) ?_
          refine RN_aload_n (pc := 58) (k := 0) (by decide +kernel) rfl rfl ?_
          refine RN_getR (pc := 59) (idx := 19) (ci := 11) (k := 5) (by decide +kernel) lf_RX12_19 rfl c39 c40 ?_
          obtain ⟨r46, er46, h⟩ := nm_el h
          refine RN_nmR er46 ?_
          refine RN_iload_n (pc := 62) (k := 1) (by decide +kernel) rfl rfl ?_
          obtain ⟨c47, h⟩ := ck_el h
          refine RN_iald (pc := 63) (by decide +kernel) c47 ?_
          refine RN_iadd (pc := 64) (by decide +kernel) ?_
          refine RN_iload_n (pc := 65) (k := 2) (by decide +kernel) rfl rfl ?_
          obtain ⟨c48, h⟩ := ck_el h
          refine RN_iast (pc := 66) (by decide +kernel) c48 ?_
          obtain ⟨σ49, eσ49, h⟩ := nm_el h
          refine RN_nmS eσ49 ?_
          refine RN_aload_n (pc := 67) (k := 0) (by decide +kernel) rfl rfl ?_
          obtain ⟨c50, h⟩ := ck_el h
          obtain ⟨c51, h⟩ := ck_el h
          refine RN_getR (pc := 68) (idx := 19) (ci := 11) (k := 5) (by decide +kernel) lf_RX12_19 rfl c50 c51 ?_
          obtain ⟨r52, er52, h⟩ := nm_el h
          refine RN_nmR er52 ?_
          refine RN_iload_n (pc := 71) (k := 1) (by decide +kernel) rfl rfl ?_
          refine RN_dup2_11 (pc := 72) (by decide +kernel) rfl rfl ?_
          obtain ⟨c53, h⟩ := ck_el h
          refine RN_iald (pc := 73) (by decide +kernel) c53 ?_
          refine RN_iconst (pc := 74) (n := 1) (v := 1) (by decide +kernel) (by decide) ?_
          refine RN_iadd (pc := 75) (by decide +kernel) ?_
          obtain ⟨c54, h⟩ := ck_el h
          refine RN_iast (pc := 76) (by decide +kernel) c54 ?_
          obtain ⟨σ55, eσ55, h⟩ := nm_el h
          refine RN_nmS eσ55 ?_
          refine RN_aload_n (pc := 77) (k := 0) (by decide +kernel) rfl rfl ?_
          obtain ⟨c56, h⟩ := ck_el h
          obtain ⟨c57, h⟩ := ck_el h
          refine RN_getR (pc := 78) (idx := 19) (ci := 11) (k := 5) (by decide +kernel) lf_RX12_19 rfl c56 c57 ?_
          obtain ⟨r58, er58, h⟩ := nm_el h
          refine RN_nmR er58 ?_
          refine RN_iload_n (pc := 81) (k := 1) (by decide +kernel) rfl rfl ?_
          obtain ⟨c59, h⟩ := ck_el h
          refine RN_iald (pc := 82) (by decide +kernel) c59 ?_
          obtain ⟨rfl, rfl⟩ := some_el2 h
          exact RN_ireturn (by decide +kernel) rfl
        · replace h := it_t c43 h
          refine RN_bipush (pc := 47) (n := -2) (v := -2) (by decide +kernel) (by decide) ?_
          obtain ⟨rfl, rfl⟩ := some_el2 h
          exact RN_ireturn (by decide +kernel) rfl
      · replace h := it_t c38 h
        refine RN_aload_n (pc := 27) (k := 0) (by decide +kernel) rfl rfl ?_
        obtain ⟨c60, h⟩ := ck_el h
        obtain ⟨c61, h⟩ := ck_el h
        refine RN_getR (pc := 28) (idx := 19) (ci := 11) (k := 5) (by decide +kernel) lf_RX12_19 rfl c60 c61 ?_
        obtain ⟨r62, er62, h⟩ := nm_el h
        refine RN_nmR er62 ?_
        refine RN_iload_n (pc := 31) (k := 1) (by decide +kernel) rfl rfl ?_
        refine RN_iconst (pc := 32) (n := 0) (v := 0) (by decide +kernel) (by decide) ?_
        obtain ⟨c63, h⟩ := ck_el h
        refine RN_iast (pc := 33) (by decide +kernel) c63 ?_
        obtain ⟨σ64, eσ64, h⟩ := nm_el h
        refine RN_nmS eσ64 ?_
        refine RN_iconst (pc := 34) (n := 0) (v := 0) (by decide +kernel) (by decide) ?_
        obtain ⟨rfl, rfl⟩ := some_el2 h
        exact RN_ireturn (by decide +kernel) rfl
    · replace h := it_t c37 h
      refine RN_iconst (pc := 20) (n := -1) (v := -1) (by decide +kernel) (by decide) ?_
      obtain ⟨rfl, rfl⟩ := some_el2 h
      exact RN_ireturn (by decide +kernel) rfl
def f_X12_program (v0 : Nat) (σ : Sg) : Option (Int32 × Sg) :=
  ck (okO σ v0 11) <|
  if (gI σ v0 7) = (4 : Int32) then (
    some ((-2 : Int32), σ))
  else (
    ck (¬ gR σ v0 8 = 0) <|
    nm (gR σ v0 8) fun r23 =>
    ck (okW σ r23 13 (gI σ v0 7)) <|
    nm (pI σ r23 (gI σ v0 7).toNatClampNeg (0 : Int32)) fun σ25 =>
    ck (okO σ25 v0 11) <|
    ck (¬ gR σ25 v0 24 = 0) <|
    nm (gR σ25 v0 24) fun r28 =>
    ck (okW σ25 r28 14 (gI σ25 v0 7)) <|
    nm (pJ σ25 r28 (gI σ25 v0 7).toNatClampNeg (0 : Int64)) fun σ30 =>
    ck (okO σ30 v0 11) <|
    ck (¬ gR σ30 v0 25 = 0) <|
    nm (gR σ30 v0 25) fun r33 =>
    ck (okW σ30 r33 14 (gI σ30 v0 7)) <|
    nm (pJ σ30 r33 (gI σ30 v0 7).toNatClampNeg (1 : Int64)) fun σ35 =>
    ck (okO σ35 v0 11) <|
    nm (pI σ35 v0 7 ((gI σ35 v0 7) + (1 : Int32))) fun σ37 =>
    ck (okO σ37 v0 11) <|
    some ((gI σ37 v0 7) - (1 : Int32), σ37))
set_option maxRecDepth 20000 in
theorem t_X12_program {G : Gl} {xr : Int32} {σr : Sg} {v0 : Nat} {σ : Sg} (h : f_X12_program v0 σ = some (xr, σr)) : MT G M_X12_program [.ref v0] σ (some (.int xr)) σr := by
  refine MT_of rfl rfl (Nat.le_of_ble_eq_true rfl) ?_
  show RN G M_X12_program 0 [some (.ref v0)] [] σ (.inl (some (.int xr))) σr
  unfold f_X12_program at h
  refine RN_aload_n (pc := 0) (k := 0) (by decide +kernel) rfl rfl ?_
  obtain ⟨c20, h⟩ := ck_el h
  refine RN_getI (pc := 1) (idx := 140) (ci := 11) (k := 7) (by decide +kernel) lf_RX12_140 (Or.inl rfl) c20 ?_
  refine RN_iconst (pc := 4) (n := 4) (v := 4) (by decide +kernel) (by decide) ?_
  refine RN_icmp_ne (pc := 5) (off := 6) (tgt := 11) (by decide +kernel) (by decide) (fun c21 => ?_) (fun c21 => ?_)
  · replace h := it_f c21 h
    refine RN_aload_n (pc := 11) (k := 0) (by decide +kernel) rfl rfl ?_
    obtain ⟨c22, h⟩ := ck_el h
    refine RN_getR (pc := 12) (idx := 25) (ci := 11) (k := 8) (by decide +kernel) lf_RX12_25 rfl c20 c22 ?_
    obtain ⟨r23, er23, h⟩ := nm_el h
    refine RN_nmR er23 ?_
    refine RN_aload_n (pc := 15) (k := 0) (by decide +kernel) rfl rfl ?_
    refine RN_getI (pc := 16) (idx := 140) (ci := 11) (k := 7) (by decide +kernel) lf_RX12_140 (Or.inl rfl) c20 ?_
    refine RN_iconst (pc := 19) (n := 0) (v := 0) (by decide +kernel) (by decide) ?_
    obtain ⟨c24, h⟩ := ck_el h
    refine RN_iast (pc := 20) (by decide +kernel) c24 ?_
    obtain ⟨σ25, eσ25, h⟩ := nm_el h
    refine RN_nmS eσ25 ?_
    refine RN_aload_n (pc := 21) (k := 0) (by decide +kernel) rfl rfl ?_
    obtain ⟨c26, h⟩ := ck_el h
    obtain ⟨c27, h⟩ := ck_el h
    refine RN_getR (pc := 22) (idx := 63) (ci := 11) (k := 24) (by decide +kernel) lf_RX12_63 rfl c26 c27 ?_
    obtain ⟨r28, er28, h⟩ := nm_el h
    refine RN_nmR er28 ?_
    refine RN_aload_n (pc := 25) (k := 0) (by decide +kernel) rfl rfl ?_
    refine RN_getI (pc := 26) (idx := 140) (ci := 11) (k := 7) (by decide +kernel) lf_RX12_140 (Or.inl rfl) c26 ?_
    refine RN_lconst (pc := 29) (n := 0) (v := 0) (by decide +kernel) (by decide) ?_
    obtain ⟨c29, h⟩ := ck_el h
    refine RN_last (pc := 30) (by decide +kernel) c29 ?_
    obtain ⟨σ30, eσ30, h⟩ := nm_el h
    refine RN_nmS eσ30 ?_
    refine RN_aload_n (pc := 31) (k := 0) (by decide +kernel) rfl rfl ?_
    obtain ⟨c31, h⟩ := ck_el h
    obtain ⟨c32, h⟩ := ck_el h
    refine RN_getR (pc := 32) (idx := 66) (ci := 11) (k := 25) (by decide +kernel) lf_RX12_66 rfl c31 c32 ?_
    obtain ⟨r33, er33, h⟩ := nm_el h
    refine RN_nmR er33 ?_
    refine RN_aload_n (pc := 35) (k := 0) (by decide +kernel) rfl rfl ?_
    refine RN_getI (pc := 36) (idx := 140) (ci := 11) (k := 7) (by decide +kernel) lf_RX12_140 (Or.inl rfl) c31 ?_
    refine RN_lconst (pc := 39) (n := 1) (v := 1) (by decide +kernel) (by decide) ?_
    obtain ⟨c34, h⟩ := ck_el h
    refine RN_last (pc := 40) (by decide +kernel) c34 ?_
    obtain ⟨σ35, eσ35, h⟩ := nm_el h
    refine RN_nmS eσ35 ?_
    refine RN_aload_n (pc := 41) (k := 0) (by decide +kernel) rfl rfl ?_
    refine RN_dup (pc := 42) (by decide +kernel) rfl ?_
    obtain ⟨c36, h⟩ := ck_el h
    refine RN_getI (pc := 43) (idx := 140) (ci := 11) (k := 7) (by decide +kernel) lf_RX12_140 (Or.inl rfl) c36 ?_
    refine RN_iconst (pc := 46) (n := 1) (v := 1) (by decide +kernel) (by decide) ?_
    refine RN_iadd (pc := 47) (by decide +kernel) ?_
    refine RN_putI (pc := 48) (idx := 140) (ci := 11) (k := 7) (by decide +kernel) lf_RX12_140 rfl (fun q hq => by cases hq; exact Or.inl rfl) c36 ?_
    obtain ⟨σ37, eσ37, h⟩ := nm_el h
    refine RN_nmS eσ37 ?_
    refine RN_aload_n (pc := 51) (k := 0) (by decide +kernel) rfl rfl ?_
    obtain ⟨c38, h⟩ := ck_el h
    refine RN_getI (pc := 52) (idx := 140) (ci := 11) (k := 7) (by decide +kernel) lf_RX12_140 (Or.inl rfl) c38 ?_
    refine RN_iconst (pc := 55) (n := 1) (v := 1) (by decide +kernel) (by decide) ?_
    refine RN_isub (pc := 56) (by decide +kernel) ?_
    obtain ⟨rfl, rfl⟩ := some_el2 h
    exact RN_ireturn (by decide +kernel) rfl
  · replace h := it_t c21 h
    refine RN_bipush (pc := 8) (n := -2) (v := -2) (by decide +kernel) (by decide) ?_
    obtain ⟨rfl, rfl⟩ := some_el2 h
    exact RN_ireturn (by decide +kernel) rfl
def f_X12_isProgram (v0 : Nat) (v1 : Int32) (σ : Sg) : Option Int32 :=
  ck (okO σ v0 11) <|
  bp (f_X12_in v1 (0 : Int32) ((gI σ v0 7) - (1 : Int32))) fun x6 =>
  ck (x6 = 0 ∨ x6 = 1) <|
  some x6
set_option maxRecDepth 20000 in
theorem t_X12_isProgram {G : Gl} {xr : Int32} {v0 : Nat} {v1 : Int32} {σ : Sg} (h : f_X12_isProgram v0 v1 σ = some xr) : MT G M_X12_isProgram [.ref v0, .int v1] σ (some (.int xr)) σ := by
  refine MT_of rfl rfl (Nat.le_of_ble_eq_true rfl) ?_
  show RN G M_X12_isProgram 0 [some (.ref v0), some (.int v1)] [] σ (.inl (some (.int xr))) σ
  unfold f_X12_isProgram at h
  refine RN_iload_n (pc := 0) (k := 1) (by decide +kernel) rfl rfl ?_
  refine RN_iconst (pc := 1) (n := 0) (v := 0) (by decide +kernel) (by decide) ?_
  refine RN_aload_n (pc := 2) (k := 0) (by decide +kernel) rfl rfl ?_
  obtain ⟨c4, h⟩ := ck_el h
  refine RN_getI (pc := 3) (idx := 140) (ci := 11) (k := 7) (by decide +kernel) lf_RX12_140 (Or.inl rfl) c4 ?_
  refine RN_iconst (pc := 6) (n := 1) (v := 1) (by decide +kernel) (by decide) ?_
  refine RN_isub (pc := 7) (by decide +kernel) ?_
  obtain ⟨x6, f5, h⟩ := bp_el h
  refine RN_callS (M := M_X12_isProgram) (pc := 8) (idx := 159) (as := [.int v1, .int (0 : Int32), .int ((gI σ v0 7) - (1 : Int32))]) (st := []) (t_X12_in f5) (by decide +kernel) lk_RX12_159 rfl (Nat.le_of_ble_eq_true rfl) ⟨Nat.le_of_ble_eq_true rfl, Nat.le_of_ble_eq_true rfl⟩ rfl ?_
  show RN G M_X12_isProgram 11 [some (.ref v0), some (.int v1)] [.int x6] σ _ _
  obtain ⟨c7, h⟩ := ck_el h
  obtain rfl := some_el h
  exact RN_zreturn (by decide +kernel) rfl c7

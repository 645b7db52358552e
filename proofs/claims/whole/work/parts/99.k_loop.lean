/-! ===== the law's loop, by program (wip/whole/genlaw.py): one row a call ===== -/
set_option maxRecDepth 30000 in theorem zLs_29 {d : Nat} {Q : Option PV → St → Prop} {σ : St} {ls st : List PV} {a : Nat} {j : Int32} : At d kL_law 29 ls (vI j :: vR a 40 :: st) σ Q ↔ (inB j (sX σ).1 = true ∧ At d kL_law 30 ls (vI ((sX σ).2 j.toNatClampNeg) :: st) σ Q) := at_gd (fun _ => rfl)
set_option maxRecDepth 30000 in theorem zLs_193 {d : Nat} {Q : Option PV → St → Prop} {σ : St} {ls st : List PV} {a : Nat} {j : Int32} : At d kL_law 193 ls (vI j :: vR a 40 :: st) σ Q ↔ (inB j (sX σ).1 = true ∧ At d kL_law 194 ls (vI ((sX σ).2 j.toNatClampNeg) :: st) σ Q) := at_gd (fun _ => rfl)
set_option maxRecDepth 30000 in theorem zLs_198 {d : Nat} {Q : Option PV → St → Prop} {σ : St} {ls st : List PV} {a : Nat} {j : Int32} : At d kL_law 198 ls (vI j :: vR a 40 :: st) σ Q ↔ (inB j (sX σ).1 = true ∧ At d kL_law 199 ls (vI ((sX σ).2 j.toNatClampNeg) :: st) σ Q) := at_gd (fun _ => rfl)
set_option maxRecDepth 30000 in theorem zLs_203 {d : Nat} {Q : Option PV → St → Prop} {σ : St} {ls st : List PV} {a : Nat} {j : Int32} : At d kL_law 203 ls (vI j :: vR a 40 :: st) σ Q ↔ (inB j (sX σ).1 = true ∧ At d kL_law 204 ls (vI ((sX σ).2 j.toNatClampNeg) :: st) σ Q) := at_gd (fun _ => rfl)
set_option maxRecDepth 30000 in theorem zLs_208 {d : Nat} {Q : Option PV → St → Prop} {σ : St} {ls st : List PV} {a : Nat} {j : Int32} : At d kL_law 208 ls (vI j :: vR a 40 :: st) σ Q ↔ (inB j (sX σ).1 = true ∧ At d kL_law 209 ls (vI ((sX σ).2 j.toNatClampNeg) :: st) σ Q) := at_gd (fun _ => rfl)
set_option maxRecDepth 30000 in theorem zLs_217 {d : Nat} {Q : Option PV → St → Prop} {σ : St} {ls st : List PV} {a : Nat} {j : Int32} : At d kL_law 217 ls (vI j :: vR a 40 :: st) σ Q ↔ (inB j (sX σ).1 = true ∧ At d kL_law 218 ls (vI ((sX σ).2 j.toNatClampNeg) :: st) σ Q) := at_gd (fun _ => rfl)
set_option maxRecDepth 30000 in theorem zLs_222 {d : Nat} {Q : Option PV → St → Prop} {σ : St} {ls st : List PV} {a : Nat} {j : Int32} : At d kL_law 222 ls (vI j :: vR a 40 :: st) σ Q ↔ (inB j (sX σ).1 = true ∧ At d kL_law 223 ls (vI ((sX σ).2 j.toNatClampNeg) :: st) σ Q) := at_gd (fun _ => rfl)
set_option maxRecDepth 30000 in theorem zLs_227 {d : Nat} {Q : Option PV → St → Prop} {σ : St} {ls st : List PV} {a : Nat} {j : Int32} : At d kL_law 227 ls (vI j :: vR a 40 :: st) σ Q ↔ (inB j (sX σ).1 = true ∧ At d kL_law 228 ls (vI ((sX σ).2 j.toNatClampNeg) :: st) σ Q) := at_gd (fun _ => rfl)
set_option maxRecDepth 30000 in theorem zLs_232 {d : Nat} {Q : Option PV → St → Prop} {σ : St} {ls st : List PV} {a : Nat} {j : Int32} : At d kL_law 232 ls (vI j :: vR a 40 :: st) σ Q ↔ (inB j (sX σ).1 = true ∧ At d kL_law 233 ls (vI ((sX σ).2 j.toNatClampNeg) :: st) σ Q) := at_gd (fun _ => rfl)
set_option maxRecDepth 30000 in theorem zLs_246 {d : Nat} {Q : Option PV → St → Prop} {σ : St} {ls st : List PV} {a : Nat} {j : Int32} : At d kL_law 246 ls (vI j :: vR a 40 :: st) σ Q ↔ (inB j (sX σ).1 = true ∧ At d kL_law 247 ls (vI ((sX σ).2 j.toNatClampNeg) :: st) σ Q) := at_gd (fun _ => rfl)
set_option maxRecDepth 30000 in theorem zLs_251 {d : Nat} {Q : Option PV → St → Prop} {σ : St} {ls st : List PV} {a : Nat} {j : Int32} : At d kL_law 251 ls (vI j :: vR a 40 :: st) σ Q ↔ (inB j (sX σ).1 = true ∧ At d kL_law 252 ls (vI ((sX σ).2 j.toNatClampNeg) :: st) σ Q) := at_gd (fun _ => rfl)
set_option maxRecDepth 30000 in theorem zLs_256 {d : Nat} {Q : Option PV → St → Prop} {σ : St} {ls st : List PV} {a : Nat} {j : Int32} : At d kL_law 256 ls (vI j :: vR a 40 :: st) σ Q ↔ (inB j (sX σ).1 = true ∧ At d kL_law 257 ls (vI ((sX σ).2 j.toNatClampNeg) :: st) σ Q) := at_gd (fun _ => rfl)
set_option maxRecDepth 30000 in theorem zLs_261 {d : Nat} {Q : Option PV → St → Prop} {σ : St} {ls st : List PV} {a : Nat} {j : Int32} : At d kL_law 261 ls (vI j :: vR a 40 :: st) σ Q ↔ (inB j (sX σ).1 = true ∧ At d kL_law 262 ls (vI ((sX σ).2 j.toNatClampNeg) :: st) σ Q) := at_gd (fun _ => rfl)
set_option maxRecDepth 30000 in theorem zLs_266 {d : Nat} {Q : Option PV → St → Prop} {σ : St} {ls st : List PV} {a : Nat} {j : Int32} : At d kL_law 266 ls (vI j :: vR a 40 :: st) σ Q ↔ (inB j (sX σ).1 = true ∧ At d kL_law 267 ls (vI ((sX σ).2 j.toNatClampNeg) :: st) σ Q) := at_gd (fun _ => rfl)
set_option maxRecDepth 30000 in theorem zLs_275 {d : Nat} {Q : Option PV → St → Prop} {σ : St} {ls st : List PV} {a : Nat} {j : Int32} : At d kL_law 275 ls (vI j :: vR a 40 :: st) σ Q ↔ (inB j (sX σ).1 = true ∧ At d kL_law 276 ls (vI ((sX σ).2 j.toNatClampNeg) :: st) σ Q) := at_gd (fun _ => rfl)
set_option maxRecDepth 30000 in theorem zLs_280 {d : Nat} {Q : Option PV → St → Prop} {σ : St} {ls st : List PV} {a : Nat} {j : Int32} : At d kL_law 280 ls (vI j :: vR a 40 :: st) σ Q ↔ (inB j (sX σ).1 = true ∧ At d kL_law 281 ls (vI ((sX σ).2 j.toNatClampNeg) :: st) σ Q) := at_gd (fun _ => rfl)
set_option maxRecDepth 30000 in theorem zLs_285 {d : Nat} {Q : Option PV → St → Prop} {σ : St} {ls st : List PV} {a : Nat} {j : Int32} : At d kL_law 285 ls (vI j :: vR a 40 :: st) σ Q ↔ (inB j (sX σ).1 = true ∧ At d kL_law 286 ls (vI ((sX σ).2 j.toNatClampNeg) :: st) σ Q) := at_gd (fun _ => rfl)
set_option maxRecDepth 30000 in theorem zLs_290 {d : Nat} {Q : Option PV → St → Prop} {σ : St} {ls st : List PV} {a : Nat} {j : Int32} : At d kL_law 290 ls (vI j :: vR a 40 :: st) σ Q ↔ (inB j (sX σ).1 = true ∧ At d kL_law 291 ls (vI ((sX σ).2 j.toNatClampNeg) :: st) σ Q) := at_gd (fun _ => rfl)
set_option maxRecDepth 30000 in theorem zLs_295 {d : Nat} {Q : Option PV → St → Prop} {σ : St} {ls st : List PV} {a : Nat} {j : Int32} : At d kL_law 295 ls (vI j :: vR a 40 :: st) σ Q ↔ (inB j (sX σ).1 = true ∧ At d kL_law 296 ls (vI ((sX σ).2 j.toNatClampNeg) :: st) σ Q) := at_gd (fun _ => rfl)
set_option maxRecDepth 30000 in theorem zLs_309 {d : Nat} {Q : Option PV → St → Prop} {σ : St} {ls st : List PV} {a : Nat} {j : Int32} : At d kL_law 309 ls (vI j :: vR a 40 :: st) σ Q ↔ (inB j (sX σ).1 = true ∧ At d kL_law 310 ls (vI ((sX σ).2 j.toNatClampNeg) :: st) σ Q) := at_gd (fun _ => rfl)
set_option maxRecDepth 30000 in theorem zLs_314 {d : Nat} {Q : Option PV → St → Prop} {σ : St} {ls st : List PV} {a : Nat} {j : Int32} : At d kL_law 314 ls (vI j :: vR a 40 :: st) σ Q ↔ (inB j (sX σ).1 = true ∧ At d kL_law 315 ls (vI ((sX σ).2 j.toNatClampNeg) :: st) σ Q) := at_gd (fun _ => rfl)
set_option maxRecDepth 30000 in theorem zLs_323 {d : Nat} {Q : Option PV → St → Prop} {σ : St} {ls st : List PV} {a : Nat} {j : Int32} : At d kL_law 323 ls (vI j :: vR a 40 :: st) σ Q ↔ (inB j (sX σ).1 = true ∧ At d kL_law 324 ls (vI ((sX σ).2 j.toNatClampNeg) :: st) σ Q) := at_gd (fun _ => rfl)
set_option maxRecDepth 30000 in theorem zLs_328 {d : Nat} {Q : Option PV → St → Prop} {σ : St} {ls st : List PV} {a : Nat} {j : Int32} : At d kL_law 328 ls (vI j :: vR a 40 :: st) σ Q ↔ (inB j (sX σ).1 = true ∧ At d kL_law 329 ls (vI ((sX σ).2 j.toNatClampNeg) :: st) σ Q) := at_gd (fun _ => rfl)
set_option maxRecDepth 30000 in theorem zLs_342 {d : Nat} {Q : Option PV → St → Prop} {σ : St} {ls st : List PV} {a : Nat} {j : Int32} : At d kL_law 342 ls (vI j :: vR a 40 :: st) σ Q ↔ (inB j (sX σ).1 = true ∧ At d kL_law 343 ls (vI ((sX σ).2 j.toNatClampNeg) :: st) σ Q) := at_gd (fun _ => rfl)
set_option maxRecDepth 30000 in theorem zLs_347 {d : Nat} {Q : Option PV → St → Prop} {σ : St} {ls st : List PV} {a : Nat} {j : Int32} : At d kL_law 347 ls (vI j :: vR a 40 :: st) σ Q ↔ (inB j (sX σ).1 = true ∧ At d kL_law 348 ls (vI ((sX σ).2 j.toNatClampNeg) :: st) σ Q) := at_gd (fun _ => rfl)
set_option maxRecDepth 30000 in theorem zLs_356 {d : Nat} {Q : Option PV → St → Prop} {σ : St} {ls st : List PV} {a : Nat} {j : Int32} : At d kL_law 356 ls (vI j :: vR a 40 :: st) σ Q ↔ (inB j (sX σ).1 = true ∧ At d kL_law 357 ls (vI ((sX σ).2 j.toNatClampNeg) :: st) σ Q) := at_gd (fun _ => rfl)
set_option maxRecDepth 30000 in theorem zLs_361 {d : Nat} {Q : Option PV → St → Prop} {σ : St} {ls st : List PV} {a : Nat} {j : Int32} : At d kL_law 361 ls (vI j :: vR a 40 :: st) σ Q ↔ (inB j (sX σ).1 = true ∧ At d kL_law 362 ls (vI ((sX σ).2 j.toNatClampNeg) :: st) σ Q) := at_gd (fun _ => rfl)
set_option maxRecDepth 30000 in theorem zLs_375 {d : Nat} {Q : Option PV → St → Prop} {σ : St} {ls st : List PV} {a : Nat} {j : Int32} : At d kL_law 375 ls (vI j :: vR a 40 :: st) σ Q ↔ (inB j (sX σ).1 = true ∧ At d kL_law 376 ls (vI ((sX σ).2 j.toNatClampNeg) :: st) σ Q) := at_gd (fun _ => rfl)
set_option maxRecDepth 30000 in theorem zLs_380 {d : Nat} {Q : Option PV → St → Prop} {σ : St} {ls st : List PV} {a : Nat} {j : Int32} : At d kL_law 380 ls (vI j :: vR a 40 :: st) σ Q ↔ (inB j (sX σ).1 = true ∧ At d kL_law 381 ls (vI ((sX σ).2 j.toNatClampNeg) :: st) σ Q) := at_gd (fun _ => rfl)
set_option maxRecDepth 30000 in theorem zLs_385 {d : Nat} {Q : Option PV → St → Prop} {σ : St} {ls st : List PV} {a : Nat} {j : Int32} : At d kL_law 385 ls (vI j :: vR a 40 :: st) σ Q ↔ (inB j (sX σ).1 = true ∧ At d kL_law 386 ls (vI ((sX σ).2 j.toNatClampNeg) :: st) σ Q) := at_gd (fun _ => rfl)
set_option maxRecDepth 30000 in theorem zLs_390 {d : Nat} {Q : Option PV → St → Prop} {σ : St} {ls st : List PV} {a : Nat} {j : Int32} : At d kL_law 390 ls (vI j :: vR a 40 :: st) σ Q ↔ (inB j (sX σ).1 = true ∧ At d kL_law 391 ls (vI ((sX σ).2 j.toNatClampNeg) :: st) σ Q) := at_gd (fun _ => rfl)
set_option maxRecDepth 30000 in theorem zLs_399 {d : Nat} {Q : Option PV → St → Prop} {σ : St} {ls st : List PV} {a : Nat} {j : Int32} : At d kL_law 399 ls (vI j :: vR a 40 :: st) σ Q ↔ (inB j (sX σ).1 = true ∧ At d kL_law 400 ls (vI ((sX σ).2 j.toNatClampNeg) :: st) σ Q) := at_gd (fun _ => rfl)
set_option maxRecDepth 30000 in theorem zLs_404 {d : Nat} {Q : Option PV → St → Prop} {σ : St} {ls st : List PV} {a : Nat} {j : Int32} : At d kL_law 404 ls (vI j :: vR a 40 :: st) σ Q ↔ (inB j (sX σ).1 = true ∧ At d kL_law 405 ls (vI ((sX σ).2 j.toNatClampNeg) :: st) σ Q) := at_gd (fun _ => rfl)
set_option maxRecDepth 30000 in theorem zLs_409 {d : Nat} {Q : Option PV → St → Prop} {σ : St} {ls st : List PV} {a : Nat} {j : Int32} : At d kL_law 409 ls (vI j :: vR a 40 :: st) σ Q ↔ (inB j (sX σ).1 = true ∧ At d kL_law 410 ls (vI ((sX σ).2 j.toNatClampNeg) :: st) σ Q) := at_gd (fun _ => rfl)
set_option maxRecDepth 30000 in theorem zLs_414 {d : Nat} {Q : Option PV → St → Prop} {σ : St} {ls st : List PV} {a : Nat} {j : Int32} : At d kL_law 414 ls (vI j :: vR a 40 :: st) σ Q ↔ (inB j (sX σ).1 = true ∧ At d kL_law 415 ls (vI ((sX σ).2 j.toNatClampNeg) :: st) σ Q) := at_gd (fun _ => rfl)
set_option maxRecDepth 30000 in theorem zLs_428 {d : Nat} {Q : Option PV → St → Prop} {σ : St} {ls st : List PV} {a : Nat} {j : Int32} : At d kL_law 428 ls (vI j :: vR a 40 :: st) σ Q ↔ (inB j (sX σ).1 = true ∧ At d kL_law 429 ls (vI ((sX σ).2 j.toNatClampNeg) :: st) σ Q) := at_gd (fun _ => rfl)
set_option maxRecDepth 30000 in theorem zLs_437 {d : Nat} {Q : Option PV → St → Prop} {σ : St} {ls st : List PV} {a : Nat} {j : Int32} : At d kL_law 437 ls (vI j :: vR a 40 :: st) σ Q ↔ (inB j (sX σ).1 = true ∧ At d kL_law 438 ls (vI ((sX σ).2 j.toNatClampNeg) :: st) σ Q) := at_gd (fun _ => rfl)
set_option maxRecDepth 30000 in theorem zLs_464 {d : Nat} {Q : Option PV → St → Prop} {σ : St} {ls st : List PV} {a : Nat} {j : Int32} : At d kL_law 464 ls (vI j :: vR a 40 :: st) σ Q ↔ (inB j (sX σ).1 = true ∧ At d kL_law 465 ls (vI ((sX σ).2 j.toNatClampNeg) :: st) σ Q) := at_gd (fun _ => rfl)
set_option maxRecDepth 30000 in theorem zLs_469 {d : Nat} {Q : Option PV → St → Prop} {σ : St} {ls st : List PV} {a : Nat} {j : Int32} : At d kL_law 469 ls (vI j :: vR a 40 :: st) σ Q ↔ (inB j (sX σ).1 = true ∧ At d kL_law 470 ls (vI ((sX σ).2 j.toNatClampNeg) :: st) σ Q) := at_gd (fun _ => rfl)
set_option maxRecDepth 30000 in theorem zLs_478 {d : Nat} {Q : Option PV → St → Prop} {σ : St} {ls st : List PV} {a : Nat} {j : Int32} : At d kL_law 478 ls (vI j :: vR a 40 :: st) σ Q ↔ (inB j (sX σ).1 = true ∧ At d kL_law 479 ls (vI ((sX σ).2 j.toNatClampNeg) :: st) σ Q) := at_gd (fun _ => rfl)
set_option maxRecDepth 30000 in theorem zLs_483 {d : Nat} {Q : Option PV → St → Prop} {σ : St} {ls st : List PV} {a : Nat} {j : Int32} : At d kL_law 483 ls (vI j :: vR a 40 :: st) σ Q ↔ (inB j (sX σ).1 = true ∧ At d kL_law 484 ls (vI ((sX σ).2 j.toNatClampNeg) :: st) σ Q) := at_gd (fun _ => rfl)
set_option maxRecDepth 30000 in theorem zLs_497 {d : Nat} {Q : Option PV → St → Prop} {σ : St} {ls st : List PV} {a : Nat} {j : Int32} : At d kL_law 497 ls (vI j :: vR a 40 :: st) σ Q ↔ (inB j (sX σ).1 = true ∧ At d kL_law 498 ls (vI ((sX σ).2 j.toNatClampNeg) :: st) σ Q) := at_gd (fun _ => rfl)
set_option maxRecDepth 30000 in theorem zLs_502 {d : Nat} {Q : Option PV → St → Prop} {σ : St} {ls st : List PV} {a : Nat} {j : Int32} : At d kL_law 502 ls (vI j :: vR a 40 :: st) σ Q ↔ (inB j (sX σ).1 = true ∧ At d kL_law 503 ls (vI ((sX σ).2 j.toNatClampNeg) :: st) σ Q) := at_gd (fun _ => rfl)
set_option maxRecDepth 30000 in theorem zLs_507 {d : Nat} {Q : Option PV → St → Prop} {σ : St} {ls st : List PV} {a : Nat} {j : Int32} : At d kL_law 507 ls (vI j :: vR a 40 :: st) σ Q ↔ (inB j (sX σ).1 = true ∧ At d kL_law 508 ls (vI ((sX σ).2 j.toNatClampNeg) :: st) σ Q) := at_gd (fun _ => rfl)
set_option maxRecDepth 30000 in theorem zLs_516 {d : Nat} {Q : Option PV → St → Prop} {σ : St} {ls st : List PV} {a : Nat} {j : Int32} : At d kL_law 516 ls (vI j :: vR a 40 :: st) σ Q ↔ (inB j (sX σ).1 = true ∧ At d kL_law 517 ls (vI ((sX σ).2 j.toNatClampNeg) :: st) σ Q) := at_gd (fun _ => rfl)
set_option maxRecDepth 30000 in theorem zLs_521 {d : Nat} {Q : Option PV → St → Prop} {σ : St} {ls st : List PV} {a : Nat} {j : Int32} : At d kL_law 521 ls (vI j :: vR a 40 :: st) σ Q ↔ (inB j (sX σ).1 = true ∧ At d kL_law 522 ls (vI ((sX σ).2 j.toNatClampNeg) :: st) σ Q) := at_gd (fun _ => rfl)
set_option maxRecDepth 30000 in theorem zLs_526 {d : Nat} {Q : Option PV → St → Prop} {σ : St} {ls st : List PV} {a : Nat} {j : Int32} : At d kL_law 526 ls (vI j :: vR a 40 :: st) σ Q ↔ (inB j (sX σ).1 = true ∧ At d kL_law 527 ls (vI ((sX σ).2 j.toNatClampNeg) :: st) σ Q) := at_gd (fun _ => rfl)
set_option maxRecDepth 30000 in theorem zLs_540 {d : Nat} {Q : Option PV → St → Prop} {σ : St} {ls st : List PV} {a : Nat} {j : Int32} : At d kL_law 540 ls (vI j :: vR a 40 :: st) σ Q ↔ (inB j (sX σ).1 = true ∧ At d kL_law 541 ls (vI ((sX σ).2 j.toNatClampNeg) :: st) σ Q) := at_gd (fun _ => rfl)
set_option maxRecDepth 30000 in theorem zLs_545 {d : Nat} {Q : Option PV → St → Prop} {σ : St} {ls st : List PV} {a : Nat} {j : Int32} : At d kL_law 545 ls (vI j :: vR a 40 :: st) σ Q ↔ (inB j (sX σ).1 = true ∧ At d kL_law 546 ls (vI ((sX σ).2 j.toNatClampNeg) :: st) σ Q) := at_gd (fun _ => rfl)
set_option maxRecDepth 30000 in theorem zLs_554 {d : Nat} {Q : Option PV → St → Prop} {σ : St} {ls st : List PV} {a : Nat} {j : Int32} : At d kL_law 554 ls (vI j :: vR a 40 :: st) σ Q ↔ (inB j (sX σ).1 = true ∧ At d kL_law 555 ls (vI ((sX σ).2 j.toNatClampNeg) :: st) σ Q) := at_gd (fun _ => rfl)
set_option maxRecDepth 30000 in theorem zLs_559 {d : Nat} {Q : Option PV → St → Prop} {σ : St} {ls st : List PV} {a : Nat} {j : Int32} : At d kL_law 559 ls (vI j :: vR a 40 :: st) σ Q ↔ (inB j (sX σ).1 = true ∧ At d kL_law 560 ls (vI ((sX σ).2 j.toNatClampNeg) :: st) σ Q) := at_gd (fun _ => rfl)
set_option maxRecDepth 30000 in theorem zLs_587 {d : Nat} {Q : Option PV → St → Prop} {σ : St} {ls st : List PV} {a : Nat} {j : Int32} : At d kL_law 587 ls (vI j :: vR a 40 :: st) σ Q ↔ (inB j (sX σ).1 = true ∧ At d kL_law 588 ls (vI ((sX σ).2 j.toNatClampNeg) :: st) σ Q) := at_gd (fun _ => rfl)
set_option maxRecDepth 30000 in theorem zLs_596 {d : Nat} {Q : Option PV → St → Prop} {σ : St} {ls st : List PV} {a : Nat} {j : Int32} : At d kL_law 596 ls (vI j :: vR a 40 :: st) σ Q ↔ (inB j (sX σ).1 = true ∧ At d kL_law 597 ls (vI ((sX σ).2 j.toNatClampNeg) :: st) σ Q) := at_gd (fun _ => rfl)
set_option maxRecDepth 30000 in theorem zLs_611 {d : Nat} {Q : Option PV → St → Prop} {σ : St} {ls st : List PV} {a : Nat} {j : Int32} : At d kL_law 611 ls (vI j :: vR a 40 :: st) σ Q ↔ (inB j (sX σ).1 = true ∧ At d kL_law 612 ls (vI ((sX σ).2 j.toNatClampNeg) :: st) σ Q) := at_gd (fun _ => rfl)
set_option maxRecDepth 30000 in theorem zLs_616 {d : Nat} {Q : Option PV → St → Prop} {σ : St} {ls st : List PV} {a : Nat} {j : Int32} : At d kL_law 616 ls (vI j :: vR a 40 :: st) σ Q ↔ (inB j (sX σ).1 = true ∧ At d kL_law 617 ls (vI ((sX σ).2 j.toNatClampNeg) :: st) σ Q) := at_gd (fun _ => rfl)
set_option maxRecDepth 30000 in theorem zLs_621 {d : Nat} {Q : Option PV → St → Prop} {σ : St} {ls st : List PV} {a : Nat} {j : Int32} : At d kL_law 621 ls (vI j :: vR a 40 :: st) σ Q ↔ (inB j (sX σ).1 = true ∧ At d kL_law 622 ls (vI ((sX σ).2 j.toNatClampNeg) :: st) σ Q) := at_gd (fun _ => rfl)
set_option maxRecDepth 30000 in theorem zLs_630 {d : Nat} {Q : Option PV → St → Prop} {σ : St} {ls st : List PV} {a : Nat} {j : Int32} : At d kL_law 630 ls (vI j :: vR a 40 :: st) σ Q ↔ (inB j (sX σ).1 = true ∧ At d kL_law 631 ls (vI ((sX σ).2 j.toNatClampNeg) :: st) σ Q) := at_gd (fun _ => rfl)
set_option maxRecDepth 30000 in theorem zLs_635 {d : Nat} {Q : Option PV → St → Prop} {σ : St} {ls st : List PV} {a : Nat} {j : Int32} : At d kL_law 635 ls (vI j :: vR a 40 :: st) σ Q ↔ (inB j (sX σ).1 = true ∧ At d kL_law 636 ls (vI ((sX σ).2 j.toNatClampNeg) :: st) σ Q) := at_gd (fun _ => rfl)
set_option maxRecDepth 30000 in theorem zLs_640 {d : Nat} {Q : Option PV → St → Prop} {σ : St} {ls st : List PV} {a : Nat} {j : Int32} : At d kL_law 640 ls (vI j :: vR a 40 :: st) σ Q ↔ (inB j (sX σ).1 = true ∧ At d kL_law 641 ls (vI ((sX σ).2 j.toNatClampNeg) :: st) σ Q) := at_gd (fun _ => rfl)
set_option maxRecDepth 30000 in theorem zLs_655 {d : Nat} {Q : Option PV → St → Prop} {σ : St} {ls st : List PV} {a : Nat} {j : Int32} : At d kL_law 655 ls (vI j :: vR a 40 :: st) σ Q ↔ (inB j (sX σ).1 = true ∧ At d kL_law 656 ls (vI ((sX σ).2 j.toNatClampNeg) :: st) σ Q) := at_gd (fun _ => rfl)
set_option maxRecDepth 30000 in theorem zLs_660 {d : Nat} {Q : Option PV → St → Prop} {σ : St} {ls st : List PV} {a : Nat} {j : Int32} : At d kL_law 660 ls (vI j :: vR a 40 :: st) σ Q ↔ (inB j (sX σ).1 = true ∧ At d kL_law 661 ls (vI ((sX σ).2 j.toNatClampNeg) :: st) σ Q) := at_gd (fun _ => rfl)
set_option maxRecDepth 30000 in theorem zLs_665 {d : Nat} {Q : Option PV → St → Prop} {σ : St} {ls st : List PV} {a : Nat} {j : Int32} : At d kL_law 665 ls (vI j :: vR a 40 :: st) σ Q ↔ (inB j (sX σ).1 = true ∧ At d kL_law 666 ls (vI ((sX σ).2 j.toNatClampNeg) :: st) σ Q) := at_gd (fun _ => rfl)
set_option maxRecDepth 30000 in theorem zLs_670 {d : Nat} {Q : Option PV → St → Prop} {σ : St} {ls st : List PV} {a : Nat} {j : Int32} : At d kL_law 670 ls (vI j :: vR a 40 :: st) σ Q ↔ (inB j (sX σ).1 = true ∧ At d kL_law 671 ls (vI ((sX σ).2 j.toNatClampNeg) :: st) σ Q) := at_gd (fun _ => rfl)
set_option maxRecDepth 30000 in theorem zLs_675 {d : Nat} {Q : Option PV → St → Prop} {σ : St} {ls st : List PV} {a : Nat} {j : Int32} : At d kL_law 675 ls (vI j :: vR a 40 :: st) σ Q ↔ (inB j (sX σ).1 = true ∧ At d kL_law 676 ls (vI ((sX σ).2 j.toNatClampNeg) :: st) σ Q) := at_gd (fun _ => rfl)
set_option maxRecDepth 30000 in theorem zLs_684 {d : Nat} {Q : Option PV → St → Prop} {σ : St} {ls st : List PV} {a : Nat} {j : Int32} : At d kL_law 684 ls (vI j :: vR a 40 :: st) σ Q ↔ (inB j (sX σ).1 = true ∧ At d kL_law 685 ls (vI ((sX σ).2 j.toNatClampNeg) :: st) σ Q) := at_gd (fun _ => rfl)
set_option maxRecDepth 30000 in theorem zLs_689 {d : Nat} {Q : Option PV → St → Prop} {σ : St} {ls st : List PV} {a : Nat} {j : Int32} : At d kL_law 689 ls (vI j :: vR a 40 :: st) σ Q ↔ (inB j (sX σ).1 = true ∧ At d kL_law 690 ls (vI ((sX σ).2 j.toNatClampNeg) :: st) σ Q) := at_gd (fun _ => rfl)
set_option maxRecDepth 30000 in theorem zLs_694 {d : Nat} {Q : Option PV → St → Prop} {σ : St} {ls st : List PV} {a : Nat} {j : Int32} : At d kL_law 694 ls (vI j :: vR a 40 :: st) σ Q ↔ (inB j (sX σ).1 = true ∧ At d kL_law 695 ls (vI ((sX σ).2 j.toNatClampNeg) :: st) σ Q) := at_gd (fun _ => rfl)
set_option maxRecDepth 30000 in theorem zLs_699 {d : Nat} {Q : Option PV → St → Prop} {σ : St} {ls st : List PV} {a : Nat} {j : Int32} : At d kL_law 699 ls (vI j :: vR a 40 :: st) σ Q ↔ (inB j (sX σ).1 = true ∧ At d kL_law 700 ls (vI ((sX σ).2 j.toNatClampNeg) :: st) σ Q) := at_gd (fun _ => rfl)
set_option maxRecDepth 30000 in theorem zLs_704 {d : Nat} {Q : Option PV → St → Prop} {σ : St} {ls st : List PV} {a : Nat} {j : Int32} : At d kL_law 704 ls (vI j :: vR a 40 :: st) σ Q ↔ (inB j (sX σ).1 = true ∧ At d kL_law 705 ls (vI ((sX σ).2 j.toNatClampNeg) :: st) σ Q) := at_gd (fun _ => rfl)
set_option maxRecDepth 30000 in theorem zLs_719 {d : Nat} {Q : Option PV → St → Prop} {σ : St} {ls st : List PV} {a : Nat} {j : Int32} : At d kL_law 719 ls (vI j :: vR a 40 :: st) σ Q ↔ (inB j (sX σ).1 = true ∧ At d kL_law 720 ls (vI ((sX σ).2 j.toNatClampNeg) :: st) σ Q) := at_gd (fun _ => rfl)
set_option maxRecDepth 30000 in theorem zLs_724 {d : Nat} {Q : Option PV → St → Prop} {σ : St} {ls st : List PV} {a : Nat} {j : Int32} : At d kL_law 724 ls (vI j :: vR a 40 :: st) σ Q ↔ (inB j (sX σ).1 = true ∧ At d kL_law 725 ls (vI ((sX σ).2 j.toNatClampNeg) :: st) σ Q) := at_gd (fun _ => rfl)
set_option maxRecDepth 30000 in theorem zLs_733 {d : Nat} {Q : Option PV → St → Prop} {σ : St} {ls st : List PV} {a : Nat} {j : Int32} : At d kL_law 733 ls (vI j :: vR a 40 :: st) σ Q ↔ (inB j (sX σ).1 = true ∧ At d kL_law 734 ls (vI ((sX σ).2 j.toNatClampNeg) :: st) σ Q) := at_gd (fun _ => rfl)
set_option maxRecDepth 30000 in theorem zLs_738 {d : Nat} {Q : Option PV → St → Prop} {σ : St} {ls st : List PV} {a : Nat} {j : Int32} : At d kL_law 738 ls (vI j :: vR a 40 :: st) σ Q ↔ (inB j (sX σ).1 = true ∧ At d kL_law 739 ls (vI ((sX σ).2 j.toNatClampNeg) :: st) σ Q) := at_gd (fun _ => rfl)
set_option maxRecDepth 30000 in theorem zLs_753 {d : Nat} {Q : Option PV → St → Prop} {σ : St} {ls st : List PV} {a : Nat} {j : Int32} : At d kL_law 753 ls (vI j :: vR a 40 :: st) σ Q ↔ (inB j (sX σ).1 = true ∧ At d kL_law 754 ls (vI ((sX σ).2 j.toNatClampNeg) :: st) σ Q) := at_gd (fun _ => rfl)
set_option maxRecDepth 30000 in theorem zLs_758 {d : Nat} {Q : Option PV → St → Prop} {σ : St} {ls st : List PV} {a : Nat} {j : Int32} : At d kL_law 758 ls (vI j :: vR a 40 :: st) σ Q ↔ (inB j (sX σ).1 = true ∧ At d kL_law 759 ls (vI ((sX σ).2 j.toNatClampNeg) :: st) σ Q) := at_gd (fun _ => rfl)
set_option maxRecDepth 30000 in theorem zLs_763 {d : Nat} {Q : Option PV → St → Prop} {σ : St} {ls st : List PV} {a : Nat} {j : Int32} : At d kL_law 763 ls (vI j :: vR a 40 :: st) σ Q ↔ (inB j (sX σ).1 = true ∧ At d kL_law 764 ls (vI ((sX σ).2 j.toNatClampNeg) :: st) σ Q) := at_gd (fun _ => rfl)
set_option maxRecDepth 30000 in theorem zLs_768 {d : Nat} {Q : Option PV → St → Prop} {σ : St} {ls st : List PV} {a : Nat} {j : Int32} : At d kL_law 768 ls (vI j :: vR a 40 :: st) σ Q ↔ (inB j (sX σ).1 = true ∧ At d kL_law 769 ls (vI ((sX σ).2 j.toNatClampNeg) :: st) σ Q) := at_gd (fun _ => rfl)
set_option maxRecDepth 30000 in theorem zLs_773 {d : Nat} {Q : Option PV → St → Prop} {σ : St} {ls st : List PV} {a : Nat} {j : Int32} : At d kL_law 773 ls (vI j :: vR a 40 :: st) σ Q ↔ (inB j (sX σ).1 = true ∧ At d kL_law 774 ls (vI ((sX σ).2 j.toNatClampNeg) :: st) σ Q) := at_gd (fun _ => rfl)
set_option maxRecDepth 30000 in theorem zLs_782 {d : Nat} {Q : Option PV → St → Prop} {σ : St} {ls st : List PV} {a : Nat} {j : Int32} : At d kL_law 782 ls (vI j :: vR a 40 :: st) σ Q ↔ (inB j (sX σ).1 = true ∧ At d kL_law 783 ls (vI ((sX σ).2 j.toNatClampNeg) :: st) σ Q) := at_gd (fun _ => rfl)
set_option maxRecDepth 30000 in theorem zLs_787 {d : Nat} {Q : Option PV → St → Prop} {σ : St} {ls st : List PV} {a : Nat} {j : Int32} : At d kL_law 787 ls (vI j :: vR a 40 :: st) σ Q ↔ (inB j (sX σ).1 = true ∧ At d kL_law 788 ls (vI ((sX σ).2 j.toNatClampNeg) :: st) σ Q) := at_gd (fun _ => rfl)
set_option maxRecDepth 30000 in theorem zLs_792 {d : Nat} {Q : Option PV → St → Prop} {σ : St} {ls st : List PV} {a : Nat} {j : Int32} : At d kL_law 792 ls (vI j :: vR a 40 :: st) σ Q ↔ (inB j (sX σ).1 = true ∧ At d kL_law 793 ls (vI ((sX σ).2 j.toNatClampNeg) :: st) σ Q) := at_gd (fun _ => rfl)
set_option maxRecDepth 30000 in theorem zLs_797 {d : Nat} {Q : Option PV → St → Prop} {σ : St} {ls st : List PV} {a : Nat} {j : Int32} : At d kL_law 797 ls (vI j :: vR a 40 :: st) σ Q ↔ (inB j (sX σ).1 = true ∧ At d kL_law 798 ls (vI ((sX σ).2 j.toNatClampNeg) :: st) σ Q) := at_gd (fun _ => rfl)
set_option maxRecDepth 30000 in theorem zLs_802 {d : Nat} {Q : Option PV → St → Prop} {σ : St} {ls st : List PV} {a : Nat} {j : Int32} : At d kL_law 802 ls (vI j :: vR a 40 :: st) σ Q ↔ (inB j (sX σ).1 = true ∧ At d kL_law 803 ls (vI ((sX σ).2 j.toNatClampNeg) :: st) σ Q) := at_gd (fun _ => rfl)
set_option maxRecDepth 30000 in theorem zLs_817 {d : Nat} {Q : Option PV → St → Prop} {σ : St} {ls st : List PV} {a : Nat} {j : Int32} : At d kL_law 817 ls (vI j :: vR a 40 :: st) σ Q ↔ (inB j (sX σ).1 = true ∧ At d kL_law 818 ls (vI ((sX σ).2 j.toNatClampNeg) :: st) σ Q) := at_gd (fun _ => rfl)
set_option maxRecDepth 30000 in theorem zLs_822 {d : Nat} {Q : Option PV → St → Prop} {σ : St} {ls st : List PV} {a : Nat} {j : Int32} : At d kL_law 822 ls (vI j :: vR a 40 :: st) σ Q ↔ (inB j (sX σ).1 = true ∧ At d kL_law 823 ls (vI ((sX σ).2 j.toNatClampNeg) :: st) σ Q) := at_gd (fun _ => rfl)
set_option maxRecDepth 30000 in theorem zLs_827 {d : Nat} {Q : Option PV → St → Prop} {σ : St} {ls st : List PV} {a : Nat} {j : Int32} : At d kL_law 827 ls (vI j :: vR a 40 :: st) σ Q ↔ (inB j (sX σ).1 = true ∧ At d kL_law 828 ls (vI ((sX σ).2 j.toNatClampNeg) :: st) σ Q) := at_gd (fun _ => rfl)
set_option maxRecDepth 30000 in theorem zLs_832 {d : Nat} {Q : Option PV → St → Prop} {σ : St} {ls st : List PV} {a : Nat} {j : Int32} : At d kL_law 832 ls (vI j :: vR a 40 :: st) σ Q ↔ (inB j (sX σ).1 = true ∧ At d kL_law 833 ls (vI ((sX σ).2 j.toNatClampNeg) :: st) σ Q) := at_gd (fun _ => rfl)
set_option maxRecDepth 30000 in theorem zLs_841 {d : Nat} {Q : Option PV → St → Prop} {σ : St} {ls st : List PV} {a : Nat} {j : Int32} : At d kL_law 841 ls (vI j :: vR a 40 :: st) σ Q ↔ (inB j (sX σ).1 = true ∧ At d kL_law 842 ls (vI ((sX σ).2 j.toNatClampNeg) :: st) σ Q) := at_gd (fun _ => rfl)
set_option maxRecDepth 30000 in theorem zLs_846 {d : Nat} {Q : Option PV → St → Prop} {σ : St} {ls st : List PV} {a : Nat} {j : Int32} : At d kL_law 846 ls (vI j :: vR a 40 :: st) σ Q ↔ (inB j (sX σ).1 = true ∧ At d kL_law 847 ls (vI ((sX σ).2 j.toNatClampNeg) :: st) σ Q) := at_gd (fun _ => rfl)
set_option maxRecDepth 30000 in theorem zLs_851 {d : Nat} {Q : Option PV → St → Prop} {σ : St} {ls st : List PV} {a : Nat} {j : Int32} : At d kL_law 851 ls (vI j :: vR a 40 :: st) σ Q ↔ (inB j (sX σ).1 = true ∧ At d kL_law 852 ls (vI ((sX σ).2 j.toNatClampNeg) :: st) σ Q) := at_gd (fun _ => rfl)
set_option maxRecDepth 30000 in theorem zLs_856 {d : Nat} {Q : Option PV → St → Prop} {σ : St} {ls st : List PV} {a : Nat} {j : Int32} : At d kL_law 856 ls (vI j :: vR a 40 :: st) σ Q ↔ (inB j (sX σ).1 = true ∧ At d kL_law 857 ls (vI ((sX σ).2 j.toNatClampNeg) :: st) σ Q) := at_gd (fun _ => rfl)
set_option maxRecDepth 30000 in theorem zLs_871 {d : Nat} {Q : Option PV → St → Prop} {σ : St} {ls st : List PV} {a : Nat} {j : Int32} : At d kL_law 871 ls (vI j :: vR a 40 :: st) σ Q ↔ (inB j (sX σ).1 = true ∧ At d kL_law 872 ls (vI ((sX σ).2 j.toNatClampNeg) :: st) σ Q) := at_gd (fun _ => rfl)
set_option maxRecDepth 30000 in theorem zLs_880 {d : Nat} {Q : Option PV → St → Prop} {σ : St} {ls st : List PV} {a : Nat} {j : Int32} : At d kL_law 880 ls (vI j :: vR a 40 :: st) σ Q ↔ (inB j (sX σ).1 = true ∧ At d kL_law 881 ls (vI ((sX σ).2 j.toNatClampNeg) :: st) σ Q) := at_gd (fun _ => rfl)
set_option maxRecDepth 30000 in theorem zLs_894 {d : Nat} {Q : Option PV → St → Prop} {σ : St} {ls st : List PV} {a : Nat} {j : Int32} : At d kL_law 894 ls (vI j :: vR a 40 :: st) σ Q ↔ (inB j (sX σ).1 = true ∧ At d kL_law 895 ls (vI ((sX σ).2 j.toNatClampNeg) :: st) σ Q) := at_gd (fun _ => rfl)
set_option maxRecDepth 30000 in theorem zLs_899 {d : Nat} {Q : Option PV → St → Prop} {σ : St} {ls st : List PV} {a : Nat} {j : Int32} : At d kL_law 899 ls (vI j :: vR a 40 :: st) σ Q ↔ (inB j (sX σ).1 = true ∧ At d kL_law 900 ls (vI ((sX σ).2 j.toNatClampNeg) :: st) σ Q) := at_gd (fun _ => rfl)
set_option maxRecDepth 30000 in theorem zLs_908 {d : Nat} {Q : Option PV → St → Prop} {σ : St} {ls st : List PV} {a : Nat} {j : Int32} : At d kL_law 908 ls (vI j :: vR a 40 :: st) σ Q ↔ (inB j (sX σ).1 = true ∧ At d kL_law 909 ls (vI ((sX σ).2 j.toNatClampNeg) :: st) σ Q) := at_gd (fun _ => rfl)
set_option maxRecDepth 30000 in theorem zLs_913 {d : Nat} {Q : Option PV → St → Prop} {σ : St} {ls st : List PV} {a : Nat} {j : Int32} : At d kL_law 913 ls (vI j :: vR a 40 :: st) σ Q ↔ (inB j (sX σ).1 = true ∧ At d kL_law 914 ls (vI ((sX σ).2 j.toNatClampNeg) :: st) σ Q) := at_gd (fun _ => rfl)
set_option maxRecDepth 30000 in theorem zLs_927 {d : Nat} {Q : Option PV → St → Prop} {σ : St} {ls st : List PV} {a : Nat} {j : Int32} : At d kL_law 927 ls (vI j :: vR a 40 :: st) σ Q ↔ (inB j (sX σ).1 = true ∧ At d kL_law 928 ls (vI ((sX σ).2 j.toNatClampNeg) :: st) σ Q) := at_gd (fun _ => rfl)
set_option maxRecDepth 30000 in theorem zLs_932 {d : Nat} {Q : Option PV → St → Prop} {σ : St} {ls st : List PV} {a : Nat} {j : Int32} : At d kL_law 932 ls (vI j :: vR a 40 :: st) σ Q ↔ (inB j (sX σ).1 = true ∧ At d kL_law 933 ls (vI ((sX σ).2 j.toNatClampNeg) :: st) σ Q) := at_gd (fun _ => rfl)
set_option maxRecDepth 30000 in theorem zLs_937 {d : Nat} {Q : Option PV → St → Prop} {σ : St} {ls st : List PV} {a : Nat} {j : Int32} : At d kL_law 937 ls (vI j :: vR a 40 :: st) σ Q ↔ (inB j (sX σ).1 = true ∧ At d kL_law 938 ls (vI ((sX σ).2 j.toNatClampNeg) :: st) σ Q) := at_gd (fun _ => rfl)
set_option maxRecDepth 30000 in theorem zLs_946 {d : Nat} {Q : Option PV → St → Prop} {σ : St} {ls st : List PV} {a : Nat} {j : Int32} : At d kL_law 946 ls (vI j :: vR a 40 :: st) σ Q ↔ (inB j (sX σ).1 = true ∧ At d kL_law 947 ls (vI ((sX σ).2 j.toNatClampNeg) :: st) σ Q) := at_gd (fun _ => rfl)
set_option maxRecDepth 30000 in theorem zLs_951 {d : Nat} {Q : Option PV → St → Prop} {σ : St} {ls st : List PV} {a : Nat} {j : Int32} : At d kL_law 951 ls (vI j :: vR a 40 :: st) σ Q ↔ (inB j (sX σ).1 = true ∧ At d kL_law 952 ls (vI ((sX σ).2 j.toNatClampNeg) :: st) σ Q) := at_gd (fun _ => rfl)
set_option maxRecDepth 30000 in theorem zLs_956 {d : Nat} {Q : Option PV → St → Prop} {σ : St} {ls st : List PV} {a : Nat} {j : Int32} : At d kL_law 956 ls (vI j :: vR a 40 :: st) σ Q ↔ (inB j (sX σ).1 = true ∧ At d kL_law 957 ls (vI ((sX σ).2 j.toNatClampNeg) :: st) σ Q) := at_gd (fun _ => rfl)
set_option maxRecDepth 30000 in theorem zLs_971 {d : Nat} {Q : Option PV → St → Prop} {σ : St} {ls st : List PV} {a : Nat} {j : Int32} : At d kL_law 971 ls (vI j :: vR a 40 :: st) σ Q ↔ (inB j (sX σ).1 = true ∧ At d kL_law 972 ls (vI ((sX σ).2 j.toNatClampNeg) :: st) σ Q) := at_gd (fun _ => rfl)
set_option maxRecDepth 30000 in theorem zLs_980 {d : Nat} {Q : Option PV → St → Prop} {σ : St} {ls st : List PV} {a : Nat} {j : Int32} : At d kL_law 980 ls (vI j :: vR a 40 :: st) σ Q ↔ (inB j (sX σ).1 = true ∧ At d kL_law 981 ls (vI ((sX σ).2 j.toNatClampNeg) :: st) σ Q) := at_gd (fun _ => rfl)
set_option maxRecDepth 30000 in theorem zLs_994 {d : Nat} {Q : Option PV → St → Prop} {σ : St} {ls st : List PV} {a : Nat} {j : Int32} : At d kL_law 994 ls (vI j :: vR a 40 :: st) σ Q ↔ (inB j (sX σ).1 = true ∧ At d kL_law 995 ls (vI ((sX σ).2 j.toNatClampNeg) :: st) σ Q) := at_gd (fun _ => rfl)
set_option maxRecDepth 30000 in theorem zLs_999 {d : Nat} {Q : Option PV → St → Prop} {σ : St} {ls st : List PV} {a : Nat} {j : Int32} : At d kL_law 999 ls (vI j :: vR a 40 :: st) σ Q ↔ (inB j (sX σ).1 = true ∧ At d kL_law 1000 ls (vI ((sX σ).2 j.toNatClampNeg) :: st) σ Q) := at_gd (fun _ => rfl)
set_option maxRecDepth 30000 in theorem zLs_1008 {d : Nat} {Q : Option PV → St → Prop} {σ : St} {ls st : List PV} {a : Nat} {j : Int32} : At d kL_law 1008 ls (vI j :: vR a 40 :: st) σ Q ↔ (inB j (sX σ).1 = true ∧ At d kL_law 1009 ls (vI ((sX σ).2 j.toNatClampNeg) :: st) σ Q) := at_gd (fun _ => rfl)
set_option maxRecDepth 30000 in theorem zLs_1013 {d : Nat} {Q : Option PV → St → Prop} {σ : St} {ls st : List PV} {a : Nat} {j : Int32} : At d kL_law 1013 ls (vI j :: vR a 40 :: st) σ Q ↔ (inB j (sX σ).1 = true ∧ At d kL_law 1014 ls (vI ((sX σ).2 j.toNatClampNeg) :: st) σ Q) := at_gd (fun _ => rfl)
set_option maxRecDepth 30000 in theorem zLs_1027 {d : Nat} {Q : Option PV → St → Prop} {σ : St} {ls st : List PV} {a : Nat} {j : Int32} : At d kL_law 1027 ls (vI j :: vR a 40 :: st) σ Q ↔ (inB j (sX σ).1 = true ∧ At d kL_law 1028 ls (vI ((sX σ).2 j.toNatClampNeg) :: st) σ Q) := at_gd (fun _ => rfl)
set_option maxRecDepth 30000 in theorem zLs_1032 {d : Nat} {Q : Option PV → St → Prop} {σ : St} {ls st : List PV} {a : Nat} {j : Int32} : At d kL_law 1032 ls (vI j :: vR a 40 :: st) σ Q ↔ (inB j (sX σ).1 = true ∧ At d kL_law 1033 ls (vI ((sX σ).2 j.toNatClampNeg) :: st) σ Q) := at_gd (fun _ => rfl)
set_option maxRecDepth 30000 in theorem zLs_1041 {d : Nat} {Q : Option PV → St → Prop} {σ : St} {ls st : List PV} {a : Nat} {j : Int32} : At d kL_law 1041 ls (vI j :: vR a 40 :: st) σ Q ↔ (inB j (sX σ).1 = true ∧ At d kL_law 1042 ls (vI ((sX σ).2 j.toNatClampNeg) :: st) σ Q) := at_gd (fun _ => rfl)
set_option maxRecDepth 30000 in theorem zLs_1046 {d : Nat} {Q : Option PV → St → Prop} {σ : St} {ls st : List PV} {a : Nat} {j : Int32} : At d kL_law 1046 ls (vI j :: vR a 40 :: st) σ Q ↔ (inB j (sX σ).1 = true ∧ At d kL_law 1047 ls (vI ((sX σ).2 j.toNatClampNeg) :: st) σ Q) := at_gd (fun _ => rfl)
set_option maxRecDepth 30000 in theorem zLs_1060 {d : Nat} {Q : Option PV → St → Prop} {σ : St} {ls st : List PV} {a : Nat} {j : Int32} : At d kL_law 1060 ls (vI j :: vR a 40 :: st) σ Q ↔ (inB j (sX σ).1 = true ∧ At d kL_law 1061 ls (vI ((sX σ).2 j.toNatClampNeg) :: st) σ Q) := at_gd (fun _ => rfl)
set_option maxRecDepth 30000 in theorem zLs_1069 {d : Nat} {Q : Option PV → St → Prop} {σ : St} {ls st : List PV} {a : Nat} {j : Int32} : At d kL_law 1069 ls (vI j :: vR a 40 :: st) σ Q ↔ (inB j (sX σ).1 = true ∧ At d kL_law 1070 ls (vI ((sX σ).2 j.toNatClampNeg) :: st) σ Q) := at_gd (fun _ => rfl)
set_option maxRecDepth 30000 in theorem zLs_1083 {d : Nat} {Q : Option PV → St → Prop} {σ : St} {ls st : List PV} {a : Nat} {j : Int32} : At d kL_law 1083 ls (vI j :: vR a 40 :: st) σ Q ↔ (inB j (sX σ).1 = true ∧ At d kL_law 1084 ls (vI ((sX σ).2 j.toNatClampNeg) :: st) σ Q) := at_gd (fun _ => rfl)
set_option maxRecDepth 30000 in theorem zLs_1088 {d : Nat} {Q : Option PV → St → Prop} {σ : St} {ls st : List PV} {a : Nat} {j : Int32} : At d kL_law 1088 ls (vI j :: vR a 40 :: st) σ Q ↔ (inB j (sX σ).1 = true ∧ At d kL_law 1089 ls (vI ((sX σ).2 j.toNatClampNeg) :: st) σ Q) := at_gd (fun _ => rfl)
set_option maxRecDepth 30000 in theorem zLs_1097 {d : Nat} {Q : Option PV → St → Prop} {σ : St} {ls st : List PV} {a : Nat} {j : Int32} : At d kL_law 1097 ls (vI j :: vR a 40 :: st) σ Q ↔ (inB j (sX σ).1 = true ∧ At d kL_law 1098 ls (vI ((sX σ).2 j.toNatClampNeg) :: st) σ Q) := at_gd (fun _ => rfl)
set_option maxRecDepth 30000 in theorem zLs_1102 {d : Nat} {Q : Option PV → St → Prop} {σ : St} {ls st : List PV} {a : Nat} {j : Int32} : At d kL_law 1102 ls (vI j :: vR a 40 :: st) σ Q ↔ (inB j (sX σ).1 = true ∧ At d kL_law 1103 ls (vI ((sX σ).2 j.toNatClampNeg) :: st) σ Q) := at_gd (fun _ => rfl)
set_option maxRecDepth 30000 in theorem zLs_1116 {d : Nat} {Q : Option PV → St → Prop} {σ : St} {ls st : List PV} {a : Nat} {j : Int32} : At d kL_law 1116 ls (vI j :: vR a 40 :: st) σ Q ↔ (inB j (sX σ).1 = true ∧ At d kL_law 1117 ls (vI ((sX σ).2 j.toNatClampNeg) :: st) σ Q) := at_gd (fun _ => rfl)
set_option maxRecDepth 30000 in theorem zLs_1121 {d : Nat} {Q : Option PV → St → Prop} {σ : St} {ls st : List PV} {a : Nat} {j : Int32} : At d kL_law 1121 ls (vI j :: vR a 40 :: st) σ Q ↔ (inB j (sX σ).1 = true ∧ At d kL_law 1122 ls (vI ((sX σ).2 j.toNatClampNeg) :: st) σ Q) := at_gd (fun _ => rfl)
set_option maxRecDepth 30000 in theorem zLs_1126 {d : Nat} {Q : Option PV → St → Prop} {σ : St} {ls st : List PV} {a : Nat} {j : Int32} : At d kL_law 1126 ls (vI j :: vR a 40 :: st) σ Q ↔ (inB j (sX σ).1 = true ∧ At d kL_law 1127 ls (vI ((sX σ).2 j.toNatClampNeg) :: st) σ Q) := at_gd (fun _ => rfl)
set_option maxRecDepth 30000 in theorem zLs_1131 {d : Nat} {Q : Option PV → St → Prop} {σ : St} {ls st : List PV} {a : Nat} {j : Int32} : At d kL_law 1131 ls (vI j :: vR a 40 :: st) σ Q ↔ (inB j (sX σ).1 = true ∧ At d kL_law 1132 ls (vI ((sX σ).2 j.toNatClampNeg) :: st) σ Q) := at_gd (fun _ => rfl)
set_option maxRecDepth 30000 in theorem zLs_1136 {d : Nat} {Q : Option PV → St → Prop} {σ : St} {ls st : List PV} {a : Nat} {j : Int32} : At d kL_law 1136 ls (vI j :: vR a 40 :: st) σ Q ↔ (inB j (sX σ).1 = true ∧ At d kL_law 1137 ls (vI ((sX σ).2 j.toNatClampNeg) :: st) σ Q) := at_gd (fun _ => rfl)
set_option maxRecDepth 30000 in theorem zLs_1145 {d : Nat} {Q : Option PV → St → Prop} {σ : St} {ls st : List PV} {a : Nat} {j : Int32} : At d kL_law 1145 ls (vI j :: vR a 40 :: st) σ Q ↔ (inB j (sX σ).1 = true ∧ At d kL_law 1146 ls (vI ((sX σ).2 j.toNatClampNeg) :: st) σ Q) := at_gd (fun _ => rfl)
set_option maxRecDepth 30000 in theorem zLs_1150 {d : Nat} {Q : Option PV → St → Prop} {σ : St} {ls st : List PV} {a : Nat} {j : Int32} : At d kL_law 1150 ls (vI j :: vR a 40 :: st) σ Q ↔ (inB j (sX σ).1 = true ∧ At d kL_law 1151 ls (vI ((sX σ).2 j.toNatClampNeg) :: st) σ Q) := at_gd (fun _ => rfl)
set_option maxRecDepth 30000 in theorem zLs_1155 {d : Nat} {Q : Option PV → St → Prop} {σ : St} {ls st : List PV} {a : Nat} {j : Int32} : At d kL_law 1155 ls (vI j :: vR a 40 :: st) σ Q ↔ (inB j (sX σ).1 = true ∧ At d kL_law 1156 ls (vI ((sX σ).2 j.toNatClampNeg) :: st) σ Q) := at_gd (fun _ => rfl)
set_option maxRecDepth 30000 in theorem zLs_1160 {d : Nat} {Q : Option PV → St → Prop} {σ : St} {ls st : List PV} {a : Nat} {j : Int32} : At d kL_law 1160 ls (vI j :: vR a 40 :: st) σ Q ↔ (inB j (sX σ).1 = true ∧ At d kL_law 1161 ls (vI ((sX σ).2 j.toNatClampNeg) :: st) σ Q) := at_gd (fun _ => rfl)
set_option maxRecDepth 30000 in theorem zLs_1165 {d : Nat} {Q : Option PV → St → Prop} {σ : St} {ls st : List PV} {a : Nat} {j : Int32} : At d kL_law 1165 ls (vI j :: vR a 40 :: st) σ Q ↔ (inB j (sX σ).1 = true ∧ At d kL_law 1166 ls (vI ((sX σ).2 j.toNatClampNeg) :: st) σ Q) := at_gd (fun _ => rfl)
set_option maxRecDepth 30000 in theorem zLs_1179 {d : Nat} {Q : Option PV → St → Prop} {σ : St} {ls st : List PV} {a : Nat} {j : Int32} : At d kL_law 1179 ls (vI j :: vR a 40 :: st) σ Q ↔ (inB j (sX σ).1 = true ∧ At d kL_law 1180 ls (vI ((sX σ).2 j.toNatClampNeg) :: st) σ Q) := at_gd (fun _ => rfl)
set_option maxRecDepth 30000 in theorem zLs_1188 {d : Nat} {Q : Option PV → St → Prop} {σ : St} {ls st : List PV} {a : Nat} {j : Int32} : At d kL_law 1188 ls (vI j :: vR a 40 :: st) σ Q ↔ (inB j (sX σ).1 = true ∧ At d kL_law 1189 ls (vI ((sX σ).2 j.toNatClampNeg) :: st) σ Q) := at_gd (fun _ => rfl)
set_option maxRecDepth 30000 in theorem zLs_1202 {d : Nat} {Q : Option PV → St → Prop} {σ : St} {ls st : List PV} {a : Nat} {j : Int32} : At d kL_law 1202 ls (vI j :: vR a 40 :: st) σ Q ↔ (inB j (sX σ).1 = true ∧ At d kL_law 1203 ls (vI ((sX σ).2 j.toNatClampNeg) :: st) σ Q) := at_gd (fun _ => rfl)
set_option maxRecDepth 30000 in theorem zLs_1207 {d : Nat} {Q : Option PV → St → Prop} {σ : St} {ls st : List PV} {a : Nat} {j : Int32} : At d kL_law 1207 ls (vI j :: vR a 40 :: st) σ Q ↔ (inB j (sX σ).1 = true ∧ At d kL_law 1208 ls (vI ((sX σ).2 j.toNatClampNeg) :: st) σ Q) := at_gd (fun _ => rfl)
set_option maxRecDepth 30000 in theorem zLs_1216 {d : Nat} {Q : Option PV → St → Prop} {σ : St} {ls st : List PV} {a : Nat} {j : Int32} : At d kL_law 1216 ls (vI j :: vR a 40 :: st) σ Q ↔ (inB j (sX σ).1 = true ∧ At d kL_law 1217 ls (vI ((sX σ).2 j.toNatClampNeg) :: st) σ Q) := at_gd (fun _ => rfl)
set_option maxRecDepth 30000 in theorem zLs_1221 {d : Nat} {Q : Option PV → St → Prop} {σ : St} {ls st : List PV} {a : Nat} {j : Int32} : At d kL_law 1221 ls (vI j :: vR a 40 :: st) σ Q ↔ (inB j (sX σ).1 = true ∧ At d kL_law 1222 ls (vI ((sX σ).2 j.toNatClampNeg) :: st) σ Q) := at_gd (fun _ => rfl)
set_option maxRecDepth 30000 in theorem zLs_1261 {d : Nat} {Q : Option PV → St → Prop} {σ : St} {ls st : List PV} {a : Nat} {j : Int32} : At d kL_law 1261 ls (vI j :: vR a 40 :: st) σ Q ↔ (inB j (sX σ).1 = true ∧ At d kL_law 1262 ls (vI ((sX σ).2 j.toNatClampNeg) :: st) σ Q) := at_gd (fun _ => rfl)
set_option maxRecDepth 30000 in theorem zLs_1270 {d : Nat} {Q : Option PV → St → Prop} {σ : St} {ls st : List PV} {a : Nat} {j : Int32} : At d kL_law 1270 ls (vI j :: vR a 40 :: st) σ Q ↔ (inB j (sX σ).1 = true ∧ At d kL_law 1271 ls (vI ((sX σ).2 j.toNatClampNeg) :: st) σ Q) := at_gd (fun _ => rfl)
set_option maxRecDepth 30000 in theorem zLs_1284 {d : Nat} {Q : Option PV → St → Prop} {σ : St} {ls st : List PV} {a : Nat} {j : Int32} : At d kL_law 1284 ls (vI j :: vR a 40 :: st) σ Q ↔ (inB j (sX σ).1 = true ∧ At d kL_law 1285 ls (vI ((sX σ).2 j.toNatClampNeg) :: st) σ Q) := at_gd (fun _ => rfl)
set_option maxRecDepth 30000 in theorem zLs_1289 {d : Nat} {Q : Option PV → St → Prop} {σ : St} {ls st : List PV} {a : Nat} {j : Int32} : At d kL_law 1289 ls (vI j :: vR a 40 :: st) σ Q ↔ (inB j (sX σ).1 = true ∧ At d kL_law 1290 ls (vI ((sX σ).2 j.toNatClampNeg) :: st) σ Q) := at_gd (fun _ => rfl)
set_option maxRecDepth 30000 in theorem zLs_1294 {d : Nat} {Q : Option PV → St → Prop} {σ : St} {ls st : List PV} {a : Nat} {j : Int32} : At d kL_law 1294 ls (vI j :: vR a 40 :: st) σ Q ↔ (inB j (sX σ).1 = true ∧ At d kL_law 1295 ls (vI ((sX σ).2 j.toNatClampNeg) :: st) σ Q) := at_gd (fun _ => rfl)
set_option maxRecDepth 30000 in theorem zLs_1303 {d : Nat} {Q : Option PV → St → Prop} {σ : St} {ls st : List PV} {a : Nat} {j : Int32} : At d kL_law 1303 ls (vI j :: vR a 40 :: st) σ Q ↔ (inB j (sX σ).1 = true ∧ At d kL_law 1304 ls (vI ((sX σ).2 j.toNatClampNeg) :: st) σ Q) := at_gd (fun _ => rfl)
set_option maxRecDepth 30000 in theorem zLs_1308 {d : Nat} {Q : Option PV → St → Prop} {σ : St} {ls st : List PV} {a : Nat} {j : Int32} : At d kL_law 1308 ls (vI j :: vR a 40 :: st) σ Q ↔ (inB j (sX σ).1 = true ∧ At d kL_law 1309 ls (vI ((sX σ).2 j.toNatClampNeg) :: st) σ Q) := at_gd (fun _ => rfl)
set_option maxRecDepth 30000 in theorem zLs_1313 {d : Nat} {Q : Option PV → St → Prop} {σ : St} {ls st : List PV} {a : Nat} {j : Int32} : At d kL_law 1313 ls (vI j :: vR a 40 :: st) σ Q ↔ (inB j (sX σ).1 = true ∧ At d kL_law 1314 ls (vI ((sX σ).2 j.toNatClampNeg) :: st) σ Q) := at_gd (fun _ => rfl)
set_option maxRecDepth 30000 in theorem zLs_1327 {d : Nat} {Q : Option PV → St → Prop} {σ : St} {ls st : List PV} {a : Nat} {j : Int32} : At d kL_law 1327 ls (vI j :: vR a 40 :: st) σ Q ↔ (inB j (sX σ).1 = true ∧ At d kL_law 1328 ls (vI ((sX σ).2 j.toNatClampNeg) :: st) σ Q) := at_gd (fun _ => rfl)
set_option maxRecDepth 30000 in theorem zLs_1332 {d : Nat} {Q : Option PV → St → Prop} {σ : St} {ls st : List PV} {a : Nat} {j : Int32} : At d kL_law 1332 ls (vI j :: vR a 40 :: st) σ Q ↔ (inB j (sX σ).1 = true ∧ At d kL_law 1333 ls (vI ((sX σ).2 j.toNatClampNeg) :: st) σ Q) := at_gd (fun _ => rfl)
set_option maxRecDepth 30000 in theorem zLs_1337 {d : Nat} {Q : Option PV → St → Prop} {σ : St} {ls st : List PV} {a : Nat} {j : Int32} : At d kL_law 1337 ls (vI j :: vR a 40 :: st) σ Q ↔ (inB j (sX σ).1 = true ∧ At d kL_law 1338 ls (vI ((sX σ).2 j.toNatClampNeg) :: st) σ Q) := at_gd (fun _ => rfl)
set_option maxRecDepth 30000 in theorem zLs_1346 {d : Nat} {Q : Option PV → St → Prop} {σ : St} {ls st : List PV} {a : Nat} {j : Int32} : At d kL_law 1346 ls (vI j :: vR a 40 :: st) σ Q ↔ (inB j (sX σ).1 = true ∧ At d kL_law 1347 ls (vI ((sX σ).2 j.toNatClampNeg) :: st) σ Q) := at_gd (fun _ => rfl)
set_option maxRecDepth 30000 in theorem zLs_1361 {d : Nat} {Q : Option PV → St → Prop} {σ : St} {ls st : List PV} {a : Nat} {j : Int32} : At d kL_law 1361 ls (vI j :: vR a 40 :: st) σ Q ↔ (inB j (sX σ).1 = true ∧ At d kL_law 1362 ls (vI ((sX σ).2 j.toNatClampNeg) :: st) σ Q) := at_gd (fun _ => rfl)
set_option maxRecDepth 30000 in theorem zLs_1366 {d : Nat} {Q : Option PV → St → Prop} {σ : St} {ls st : List PV} {a : Nat} {j : Int32} : At d kL_law 1366 ls (vI j :: vR a 40 :: st) σ Q ↔ (inB j (sX σ).1 = true ∧ At d kL_law 1367 ls (vI ((sX σ).2 j.toNatClampNeg) :: st) σ Q) := at_gd (fun _ => rfl)
set_option maxRecDepth 30000 in theorem zLs_1371 {d : Nat} {Q : Option PV → St → Prop} {σ : St} {ls st : List PV} {a : Nat} {j : Int32} : At d kL_law 1371 ls (vI j :: vR a 40 :: st) σ Q ↔ (inB j (sX σ).1 = true ∧ At d kL_law 1372 ls (vI ((sX σ).2 j.toNatClampNeg) :: st) σ Q) := at_gd (fun _ => rfl)
set_option maxRecDepth 30000 in theorem zLs_1380 {d : Nat} {Q : Option PV → St → Prop} {σ : St} {ls st : List PV} {a : Nat} {j : Int32} : At d kL_law 1380 ls (vI j :: vR a 40 :: st) σ Q ↔ (inB j (sX σ).1 = true ∧ At d kL_law 1381 ls (vI ((sX σ).2 j.toNatClampNeg) :: st) σ Q) := at_gd (fun _ => rfl)
set_option maxRecDepth 30000 in theorem zLs_1400 {d : Nat} {Q : Option PV → St → Prop} {σ : St} {ls st : List PV} {a : Nat} {j : Int32} : At d kL_law 1400 ls (vI j :: vR a 40 :: st) σ Q ↔ (inB j (sX σ).1 = true ∧ At d kL_law 1401 ls (vI ((sX σ).2 j.toNatClampNeg) :: st) σ Q) := at_gd (fun _ => rfl)
set_option maxRecDepth 30000 in theorem zLs_1405 {d : Nat} {Q : Option PV → St → Prop} {σ : St} {ls st : List PV} {a : Nat} {j : Int32} : At d kL_law 1405 ls (vI j :: vR a 40 :: st) σ Q ↔ (inB j (sX σ).1 = true ∧ At d kL_law 1406 ls (vI ((sX σ).2 j.toNatClampNeg) :: st) σ Q) := at_gd (fun _ => rfl)
set_option maxRecDepth 30000 in theorem zLs_1414 {d : Nat} {Q : Option PV → St → Prop} {σ : St} {ls st : List PV} {a : Nat} {j : Int32} : At d kL_law 1414 ls (vI j :: vR a 40 :: st) σ Q ↔ (inB j (sX σ).1 = true ∧ At d kL_law 1415 ls (vI ((sX σ).2 j.toNatClampNeg) :: st) σ Q) := at_gd (fun _ => rfl)
set_option maxRecDepth 30000 in theorem zLs_1419 {d : Nat} {Q : Option PV → St → Prop} {σ : St} {ls st : List PV} {a : Nat} {j : Int32} : At d kL_law 1419 ls (vI j :: vR a 40 :: st) σ Q ↔ (inB j (sX σ).1 = true ∧ At d kL_law 1420 ls (vI ((sX σ).2 j.toNatClampNeg) :: st) σ Q) := at_gd (fun _ => rfl)
set_option maxRecDepth 30000 in theorem zLs_1434 {d : Nat} {Q : Option PV → St → Prop} {σ : St} {ls st : List PV} {a : Nat} {j : Int32} : At d kL_law 1434 ls (vI j :: vR a 40 :: st) σ Q ↔ (inB j (sX σ).1 = true ∧ At d kL_law 1435 ls (vI ((sX σ).2 j.toNatClampNeg) :: st) σ Q) := at_gd (fun _ => rfl)
set_option maxRecDepth 30000 in theorem zLs_1439 {d : Nat} {Q : Option PV → St → Prop} {σ : St} {ls st : List PV} {a : Nat} {j : Int32} : At d kL_law 1439 ls (vI j :: vR a 40 :: st) σ Q ↔ (inB j (sX σ).1 = true ∧ At d kL_law 1440 ls (vI ((sX σ).2 j.toNatClampNeg) :: st) σ Q) := at_gd (fun _ => rfl)
set_option maxRecDepth 30000 in theorem zLs_1444 {d : Nat} {Q : Option PV → St → Prop} {σ : St} {ls st : List PV} {a : Nat} {j : Int32} : At d kL_law 1444 ls (vI j :: vR a 40 :: st) σ Q ↔ (inB j (sX σ).1 = true ∧ At d kL_law 1445 ls (vI ((sX σ).2 j.toNatClampNeg) :: st) σ Q) := at_gd (fun _ => rfl)
set_option maxRecDepth 30000 in theorem zLs_1449 {d : Nat} {Q : Option PV → St → Prop} {σ : St} {ls st : List PV} {a : Nat} {j : Int32} : At d kL_law 1449 ls (vI j :: vR a 40 :: st) σ Q ↔ (inB j (sX σ).1 = true ∧ At d kL_law 1450 ls (vI ((sX σ).2 j.toNatClampNeg) :: st) σ Q) := at_gd (fun _ => rfl)
set_option maxRecDepth 30000 in theorem zLs_1454 {d : Nat} {Q : Option PV → St → Prop} {σ : St} {ls st : List PV} {a : Nat} {j : Int32} : At d kL_law 1454 ls (vI j :: vR a 40 :: st) σ Q ↔ (inB j (sX σ).1 = true ∧ At d kL_law 1455 ls (vI ((sX σ).2 j.toNatClampNeg) :: st) σ Q) := at_gd (fun _ => rfl)
set_option maxRecDepth 30000 in theorem zLs_1463 {d : Nat} {Q : Option PV → St → Prop} {σ : St} {ls st : List PV} {a : Nat} {j : Int32} : At d kL_law 1463 ls (vI j :: vR a 40 :: st) σ Q ↔ (inB j (sX σ).1 = true ∧ At d kL_law 1464 ls (vI ((sX σ).2 j.toNatClampNeg) :: st) σ Q) := at_gd (fun _ => rfl)
set_option maxRecDepth 30000 in theorem zLs_1468 {d : Nat} {Q : Option PV → St → Prop} {σ : St} {ls st : List PV} {a : Nat} {j : Int32} : At d kL_law 1468 ls (vI j :: vR a 40 :: st) σ Q ↔ (inB j (sX σ).1 = true ∧ At d kL_law 1469 ls (vI ((sX σ).2 j.toNatClampNeg) :: st) σ Q) := at_gd (fun _ => rfl)
set_option maxRecDepth 30000 in theorem zLs_1473 {d : Nat} {Q : Option PV → St → Prop} {σ : St} {ls st : List PV} {a : Nat} {j : Int32} : At d kL_law 1473 ls (vI j :: vR a 40 :: st) σ Q ↔ (inB j (sX σ).1 = true ∧ At d kL_law 1474 ls (vI ((sX σ).2 j.toNatClampNeg) :: st) σ Q) := at_gd (fun _ => rfl)
set_option maxRecDepth 30000 in theorem zLs_1478 {d : Nat} {Q : Option PV → St → Prop} {σ : St} {ls st : List PV} {a : Nat} {j : Int32} : At d kL_law 1478 ls (vI j :: vR a 40 :: st) σ Q ↔ (inB j (sX σ).1 = true ∧ At d kL_law 1479 ls (vI ((sX σ).2 j.toNatClampNeg) :: st) σ Q) := at_gd (fun _ => rfl)
set_option maxRecDepth 30000 in theorem zLs_1483 {d : Nat} {Q : Option PV → St → Prop} {σ : St} {ls st : List PV} {a : Nat} {j : Int32} : At d kL_law 1483 ls (vI j :: vR a 40 :: st) σ Q ↔ (inB j (sX σ).1 = true ∧ At d kL_law 1484 ls (vI ((sX σ).2 j.toNatClampNeg) :: st) σ Q) := at_gd (fun _ => rfl)
section LAW
variable {L : Nat} {xs : Nat → Int32} {Q : Option PV → St → Prop} {σ : St} {S : MSt} {x : Int32}
theorem lc_0 (h : LI (L, xs) σ S) (b1 : inB (x + 1) L = true) (b2 : inB (x + 2) L = true) (b3 : inB (x + 3) L = true) (b4 : inB (x + 4) L = true) (b5 : inB (x + 5) L = true) (hk : ∀ σ' S', LI (L, xs) σ' S' → At 100 kL_law 1492 [vR 0 40, vR 0 8, vR 97 9, vI x] [] σ' Q) : At 100 kL_law 188 [vR 0 40, vR 0 8, vR 97 9, vI x] [] σ Q := by
  have hX : sX σ = (L, xs) := h.2.2.2.1
  simp only [z_L_law_188, z_L_law_189, z_L_law_190, z_L_law_191, z_L_law_192, zLs_193, z_L_law_194, z_L_law_195, z_L_law_196, z_L_law_197, zLs_198, z_L_law_199, z_L_law_200, z_L_law_201, z_L_law_202, zLs_203, z_L_law_204, z_L_law_205, z_L_law_206, z_L_law_207, zLs_208, z_L_law_209, hX, b1, b2, b3, b4, b5, true_and, Option.toList_some, Option.toList_none, List.cons_append, List.nil_append, is2IT, is2RT, if_true, if_false]
  refine x_node (d := 95) h.1 (fun σ1 g f => ?_)
  have H := LH_wb h g f
  have hX : sX σ1 = (L, xs) := H.2.2.2.1
  simp only [z_L_law_212, z_L_law_213, z_L_law_214, z_L_law_215, z_L_law_216, zLs_217, z_L_law_218, z_L_law_219, z_L_law_220, z_L_law_221, zLs_222, z_L_law_223, z_L_law_224, z_L_law_225, z_L_law_226, zLs_227, z_L_law_228, z_L_law_229, z_L_law_230, z_L_law_231, zLs_232, z_L_law_233, hX, b1, b2, b3, b4, b5, true_and, Option.toList_some, Option.toList_none, List.cons_append, List.nil_append, is2IT, is2RT, if_true, if_false]
  refine m_node (d := 96) H.2.1 (fun σ2 g2 f2 => ?_)
  simp only [z_L_law_236, true_and, Option.toList_some, Option.toList_none, List.cons_append, List.nil_append, is2IT, is2RT, if_true, if_false]
  exact hk σ2 _ (LI_9 H g2 (Fw9_Fr9 f2))
theorem lc_1 (h : LI (L, xs) σ S) (b1 : inB (x + 1) L = true) (b2 : inB (x + 2) L = true) (b3 : inB (x + 3) L = true) (b4 : inB (x + 4) L = true) (b5 : inB (x + 5) L = true) (hk : ∀ σ' S', LI (L, xs) σ' S' → At 100 kL_law 1492 [vR 0 40, vR 0 8, vR 97 9, vI x] [] σ' Q) : At 100 kL_law 241 [vR 0 40, vR 0 8, vR 97 9, vI x] [] σ Q := by
  have hX : sX σ = (L, xs) := h.2.2.2.1
  simp only [z_L_law_241, z_L_law_242, z_L_law_243, z_L_law_244, z_L_law_245, zLs_246, z_L_law_247, z_L_law_248, z_L_law_249, z_L_law_250, zLs_251, z_L_law_252, z_L_law_253, z_L_law_254, z_L_law_255, zLs_256, z_L_law_257, z_L_law_258, z_L_law_259, z_L_law_260, zLs_261, z_L_law_262, z_L_law_263, z_L_law_264, z_L_law_265, zLs_266, z_L_law_267, hX, b1, b2, b3, b4, b5, true_and, Option.toList_some, Option.toList_none, List.cons_append, List.nil_append, is2IT, is2RT, if_true, if_false]
  refine x_row (d := 97) h.1 (fun σ1 g f => ?_)
  have H := LH_wb h g f
  have hX : sX σ1 = (L, xs) := H.2.2.2.1
  simp only [z_L_law_270, z_L_law_271, z_L_law_272, z_L_law_273, z_L_law_274, zLs_275, z_L_law_276, z_L_law_277, z_L_law_278, z_L_law_279, zLs_280, z_L_law_281, z_L_law_282, z_L_law_283, z_L_law_284, zLs_285, z_L_law_286, z_L_law_287, z_L_law_288, z_L_law_289, zLs_290, z_L_law_291, z_L_law_292, z_L_law_293, z_L_law_294, zLs_295, z_L_law_296, hX, b1, b2, b3, b4, b5, true_and, Option.toList_some, Option.toList_none, List.cons_append, List.nil_append, is2IT, is2RT, if_true, if_false]
  refine m_row (d := 97) H.2.1 (fun σ2 g2 f2 => ?_)
  simp only [z_L_law_299, true_and, Option.toList_some, Option.toList_none, List.cons_append, List.nil_append, is2IT, is2RT, if_true, if_false]
  exact hk σ2 _ (LI_9 H g2 (Fw9_Fr9 f2))
theorem lc_2 (h : LI (L, xs) σ S) (b1 : inB (x + 1) L = true) (b2 : inB (x + 2) L = true) (b3 : inB (x + 3) L = true) (b4 : inB (x + 4) L = true) (b5 : inB (x + 5) L = true) (hk : ∀ σ' S', LI (L, xs) σ' S' → At 100 kL_law 1492 [vR 0 40, vR 0 8, vR 97 9, vI x] [] σ' Q) : At 100 kL_law 304 [vR 0 40, vR 0 8, vR 97 9, vI x] [] σ Q := by
  have hX : sX σ = (L, xs) := h.2.2.2.1
  simp only [z_L_law_304, z_L_law_305, z_L_law_306, z_L_law_307, z_L_law_308, zLs_309, z_L_law_310, z_L_law_311, z_L_law_312, z_L_law_313, zLs_314, z_L_law_315, hX, b1, b2, b3, b4, b5, true_and, Option.toList_some, Option.toList_none, List.cons_append, List.nil_append, is2IT, is2RT, if_true, if_false]
  refine x_told (d := 97) h.1 (fun σ1 g f => ?_)
  have H := LH_wb h g f
  have hX : sX σ1 = (L, xs) := H.2.2.2.1
  simp only [z_L_law_318, z_L_law_319, z_L_law_320, z_L_law_321, z_L_law_322, zLs_323, z_L_law_324, z_L_law_325, z_L_law_326, z_L_law_327, zLs_328, z_L_law_329, hX, b1, b2, b3, b4, b5, true_and, Option.toList_some, Option.toList_none, List.cons_append, List.nil_append, is2IT, is2RT, if_true, if_false]
  refine m_told (d := 96) H.2.1 (fun σ2 g2 f2 => ?_)
  simp only [z_L_law_332, true_and, Option.toList_some, Option.toList_none, List.cons_append, List.nil_append, is2IT, is2RT, if_true, if_false]
  exact hk σ2 _ (LI_9 H g2 (Fw9_Fr9 f2))
theorem lc_3 (h : LI (L, xs) σ S) (b1 : inB (x + 1) L = true) (b2 : inB (x + 2) L = true) (b3 : inB (x + 3) L = true) (b4 : inB (x + 4) L = true) (b5 : inB (x + 5) L = true) (hk : ∀ σ' S', LI (L, xs) σ' S' → At 100 kL_law 1492 [vR 0 40, vR 0 8, vR 97 9, vI x] [] σ' Q) : At 100 kL_law 337 [vR 0 40, vR 0 8, vR 97 9, vI x] [] σ Q := by
  have hX : sX σ = (L, xs) := h.2.2.2.1
  simp only [z_L_law_337, z_L_law_338, z_L_law_339, z_L_law_340, z_L_law_341, zLs_342, z_L_law_343, z_L_law_344, z_L_law_345, z_L_law_346, zLs_347, z_L_law_348, hX, b1, b2, b3, b4, b5, true_and, Option.toList_some, Option.toList_none, List.cons_append, List.nil_append, is2IT, is2RT, if_true, if_false]
  refine x_done (d := 97) h.1 (fun σ1 g f => ?_)
  have H := LH_wb h g f
  have hX : sX σ1 = (L, xs) := H.2.2.2.1
  simp only [z_L_law_351, z_L_law_352, z_L_law_353, z_L_law_354, z_L_law_355, zLs_356, z_L_law_357, z_L_law_358, z_L_law_359, z_L_law_360, zLs_361, z_L_law_362, hX, b1, b2, b3, b4, b5, true_and, Option.toList_some, Option.toList_none, List.cons_append, List.nil_append, is2IT, is2RT, if_true, if_false]
  refine m_done (d := 96) H.2.1 (fun σ2 g2 f2 => ?_)
  simp only [z_L_law_365, true_and, Option.toList_some, Option.toList_none, List.cons_append, List.nil_append, is2IT, is2RT, if_true, if_false]
  exact hk σ2 _ (LI_9 H g2 (Fw9_Fr9 f2))
theorem lc_4 (h : LI (L, xs) σ S) (b1 : inB (x + 1) L = true) (b2 : inB (x + 2) L = true) (b3 : inB (x + 3) L = true) (b4 : inB (x + 4) L = true) (b5 : inB (x + 5) L = true) (hk : ∀ σ' S', LI (L, xs) σ' S' → At 100 kL_law 1492 [vR 0 40, vR 0 8, vR 97 9, vI x] [] σ' Q) : At 100 kL_law 370 [vR 0 40, vR 0 8, vR 97 9, vI x] [] σ Q := by
  have hX : sX σ = (L, xs) := h.2.2.2.1
  simp only [z_L_law_370, z_L_law_371, z_L_law_372, z_L_law_373, z_L_law_374, zLs_375, z_L_law_376, z_L_law_377, z_L_law_378, z_L_law_379, zLs_380, z_L_law_381, z_L_law_382, z_L_law_383, z_L_law_384, zLs_385, z_L_law_386, z_L_law_387, z_L_law_388, z_L_law_389, zLs_390, z_L_law_391, hX, b1, b2, b3, b4, b5, true_and, Option.toList_some, Option.toList_none, List.cons_append, List.nil_append, is2IT, is2RT, if_true, if_false]
  refine x_hint (d := 97) h.1 (fun σ1 g f => ?_)
  have H := LH_wb h g f
  have hX : sX σ1 = (L, xs) := H.2.2.2.1
  simp only [z_L_law_394, z_L_law_395, z_L_law_396, z_L_law_397, z_L_law_398, zLs_399, z_L_law_400, z_L_law_401, z_L_law_402, z_L_law_403, zLs_404, z_L_law_405, z_L_law_406, z_L_law_407, z_L_law_408, zLs_409, z_L_law_410, z_L_law_411, z_L_law_412, z_L_law_413, zLs_414, z_L_law_415, hX, b1, b2, b3, b4, b5, true_and, Option.toList_some, Option.toList_none, List.cons_append, List.nil_append, is2IT, is2RT, if_true, if_false]
  refine m_hint (d := 97) H.2.1 (fun σ2 g2 f2 => ?_)
  simp only [z_L_law_418, true_and, Option.toList_some, Option.toList_none, List.cons_append, List.nil_append, is2IT, is2RT, if_true, if_false]
  exact hk σ2 _ (LI_9 H g2 (Fw9_Fr9 f2))
theorem lc_5 (h : LI (L, xs) σ S) (b1 : inB (x + 1) L = true) (b2 : inB (x + 2) L = true) (b3 : inB (x + 3) L = true) (b4 : inB (x + 4) L = true) (b5 : inB (x + 5) L = true) (hk : ∀ σ' S', LI (L, xs) σ' S' → At 100 kL_law 1492 [vR 0 40, vR 0 8, vR 97 9, vI x] [] σ' Q) : At 100 kL_law 423 [vR 0 40, vR 0 8, vR 97 9, vI x] [] σ Q := by
  have hX : sX σ = (L, xs) := h.2.2.2.1
  simp only [z_L_law_423, z_L_law_424, z_L_law_425, z_L_law_426, z_L_law_427, zLs_428, z_L_law_429, hX, b1, b2, b3, b4, b5, true_and, Option.toList_some, Option.toList_none, List.cons_append, List.nil_append, is2IT, is2RT, if_true, if_false]
  refine x_feed (d := 98) h.1 (fun σ1 g f => ?_)
  have H := LH_Fc h g f
  have hX : sX σ1 = (L, xs) := H.2.2.2.1
  simp only [z_L_law_432, z_L_law_433, z_L_law_434, z_L_law_435, z_L_law_436, zLs_437, z_L_law_438, hX, b1, b2, b3, b4, b5, true_and, Option.toList_some, Option.toList_none, List.cons_append, List.nil_append, is2IT, is2RT, if_true, if_false]
  refine m_feed (d := 98) H.2.1 (fun σ2 g2 f2 => ?_)
  simp only [z_L_law_441, true_and, Option.toList_some, Option.toList_none, List.cons_append, List.nil_append, is2IT, is2RT, if_true, if_false]
  exact hk σ2 _ (LI_9 H g2 f2)
theorem lc_6 (h : LI (L, xs) σ S) (b1 : inB (x + 1) L = true) (b2 : inB (x + 2) L = true) (b3 : inB (x + 3) L = true) (b4 : inB (x + 4) L = true) (b5 : inB (x + 5) L = true) (hk : ∀ σ' S', LI (L, xs) σ' S' → At 100 kL_law 1492 [vR 0 40, vR 0 8, vR 97 9, vI x] [] σ' Q) : At 100 kL_law 446 [vR 0 40, vR 0 8, vR 97 9, vI x] [] σ Q := by
  have hX : sX σ = (L, xs) := h.2.2.2.1
  simp only [z_L_law_446, z_L_law_447, hX, b1, b2, b3, b4, b5, true_and, Option.toList_some, Option.toList_none, List.cons_append, List.nil_append, is2IT, is2RT, if_true, if_false]
  refine x_text (d := 90) h.1 (fun σ1 g f => ?_)
  have H := LH_Fc h g f
  have hX : sX σ1 = (L, xs) := H.2.2.2.1
  simp only [z_L_law_450, z_L_law_451, hX, b1, b2, b3, b4, b5, true_and, Option.toList_some, Option.toList_none, List.cons_append, List.nil_append, is2IT, is2RT, if_true, if_false]
  refine m_text (d := 93) H.2.1 (fun σ2 g2 f2 => ?_)
  simp only [z_L_law_454, true_and, Option.toList_some, Option.toList_none, List.cons_append, List.nil_append, is2IT, is2RT, if_true, if_false]
  exact hk σ2 _ (LI_9 H g2 f2)
theorem lc_7 (h : LI (L, xs) σ S) (b1 : inB (x + 1) L = true) (b2 : inB (x + 2) L = true) (b3 : inB (x + 3) L = true) (b4 : inB (x + 4) L = true) (b5 : inB (x + 5) L = true) (hk : ∀ σ' S', LI (L, xs) σ' S' → At 100 kL_law 1492 [vR 0 40, vR 0 8, vR 97 9, vI x] [] σ' Q) : At 100 kL_law 459 [vR 0 40, vR 0 8, vR 97 9, vI x] [] σ Q := by
  have hX : sX σ = (L, xs) := h.2.2.2.1
  simp only [z_L_law_459, z_L_law_460, z_L_law_461, z_L_law_462, z_L_law_463, zLs_464, z_L_law_465, z_L_law_466, z_L_law_467, z_L_law_468, zLs_469, z_L_law_470, hX, b1, b2, b3, b4, b5, true_and, Option.toList_some, Option.toList_none, List.cons_append, List.nil_append, is2IT, is2RT, if_true, if_false]
  refine x_of (d := 98) h.1 ?_
  have H := LH_rf h
  simp only [z_L_law_473, z_L_law_474, z_L_law_475, z_L_law_476, z_L_law_477, zLs_478, z_L_law_479, z_L_law_480, z_L_law_481, z_L_law_482, zLs_483, z_L_law_484, hX, b1, b2, b3, b4, b5, true_and, Option.toList_some, Option.toList_none, List.cons_append, List.nil_append, is2IT, is2RT, if_true, if_false]
  rw [m_of (d := 97) H.2.1.1]
  simp only [z_L_law_487, true_and, Option.toList_some, Option.toList_none, List.cons_append, List.nil_append, is2IT, is2RT, if_true, if_false]
  exact hk σ _ h
theorem lc_8 (h : LI (L, xs) σ S) (b1 : inB (x + 1) L = true) (b2 : inB (x + 2) L = true) (b3 : inB (x + 3) L = true) (b4 : inB (x + 4) L = true) (b5 : inB (x + 5) L = true) (hk : ∀ σ' S', LI (L, xs) σ' S' → At 100 kL_law 1492 [vR 0 40, vR 0 8, vR 97 9, vI x] [] σ' Q) : At 100 kL_law 492 [vR 0 40, vR 0 8, vR 97 9, vI x] [] σ Q := by
  have hX : sX σ = (L, xs) := h.2.2.2.1
  simp only [z_L_law_492, z_L_law_493, z_L_law_494, z_L_law_495, z_L_law_496, zLs_497, z_L_law_498, z_L_law_499, z_L_law_500, z_L_law_501, zLs_502, z_L_law_503, z_L_law_504, z_L_law_505, z_L_law_506, zLs_507, z_L_law_508, hX, b1, b2, b3, b4, b5, true_and, Option.toList_some, Option.toList_none, List.cons_append, List.nil_append, is2IT, is2RT, if_true, if_false]
  refine x_cell (d := 98) h.1 ?_
  have H := LH_rf h
  simp only [z_L_law_511, z_L_law_512, z_L_law_513, z_L_law_514, z_L_law_515, zLs_516, z_L_law_517, z_L_law_518, z_L_law_519, z_L_law_520, zLs_521, z_L_law_522, z_L_law_523, z_L_law_524, z_L_law_525, zLs_526, z_L_law_527, hX, b1, b2, b3, b4, b5, true_and, Option.toList_some, Option.toList_none, List.cons_append, List.nil_append, is2IT, is2RT, if_true, if_false]
  rw [m_cell (d := 97) H.2.1.1]
  simp only [z_L_law_530, true_and, Option.toList_some, Option.toList_none, List.cons_append, List.nil_append, is2IT, is2RT, if_true, if_false]
  exact hk σ _ h
theorem lc_9 (h : LI (L, xs) σ S) (b1 : inB (x + 1) L = true) (b2 : inB (x + 2) L = true) (b3 : inB (x + 3) L = true) (b4 : inB (x + 4) L = true) (b5 : inB (x + 5) L = true) (hk : ∀ σ' S', LI (L, xs) σ' S' → At 100 kL_law 1492 [vR 0 40, vR 0 8, vR 97 9, vI x] [] σ' Q) : At 100 kL_law 535 [vR 0 40, vR 0 8, vR 97 9, vI x] [] σ Q := by
  have hX : sX σ = (L, xs) := h.2.2.2.1
  simp only [z_L_law_535, z_L_law_536, z_L_law_537, z_L_law_538, z_L_law_539, zLs_540, z_L_law_541, z_L_law_542, z_L_law_543, z_L_law_544, zLs_545, z_L_law_546, hX, b1, b2, b3, b4, b5, true_and, Option.toList_some, Option.toList_none, List.cons_append, List.nil_append, is2IT, is2RT, if_true, if_false]
  refine x_print (d := 93) h.1 h.2.2.1 (fun σ1 f g => ?_)
  have H := LH_fb h f g
  have hX : sX σ1 = (L, xs) := H.2.2.2.1
  simp only [z_L_law_549, z_L_law_550, z_L_law_551, z_L_law_552, z_L_law_553, zLs_554, z_L_law_555, z_L_law_556, z_L_law_557, z_L_law_558, zLs_559, z_L_law_560, hX, b1, b2, b3, b4, b5, true_and, Option.toList_some, Option.toList_none, List.cons_append, List.nil_append, is2IT, is2RT, if_true, if_false]
  refine m_print (d := 96) H.2.1.1 (fun σ2 f2 => ?_)
  simp only [z_L_law_563, true_and, Option.toList_some, Option.toList_none, List.cons_append, List.nil_append, is2IT, is2RT, if_true, if_false]
  exact hk σ2 _ (LI_9 H (Sc_MS H.2.1 f2) (Sc_Fr9 f2))
theorem lc_10 (h : LI (L, xs) σ S) (b1 : inB (x + 1) L = true) (b2 : inB (x + 2) L = true) (b3 : inB (x + 3) L = true) (b4 : inB (x + 4) L = true) (b5 : inB (x + 5) L = true) (hk : ∀ σ' S', LI (L, xs) σ' S' → At 100 kL_law 1492 [vR 0 40, vR 0 8, vR 97 9, vI x] [] σ' Q) : At 100 kL_law 568 [vR 0 40, vR 0 8, vR 97 9, vI x] [] σ Q := by
  have hX : sX σ = (L, xs) := h.2.2.2.1
  simp only [z_L_law_568, z_L_law_569, hX, b1, b2, b3, b4, b5, true_and, Option.toList_some, Option.toList_none, List.cons_append, List.nil_append, is2IT, is2RT, if_true, if_false]
  refine x_weight (d := 87) h.1 (fun σ1 f => ?_)
  have H := LH_Xc h f
  have hX : sX σ1 = (L, xs) := H.2.2.2.1
  simp only [z_L_law_572, z_L_law_573, hX, b1, b2, b3, b4, b5, true_and, Option.toList_some, Option.toList_none, List.cons_append, List.nil_append, is2IT, is2RT, if_true, if_false]
  refine m_weight (d := 85) (MS_RQ H.2.1) (fun σ2 f2 => ?_)
  simp only [z_L_law_576, z_L_law_577, lg_cmp_eq, true_and, Option.toList_some, Option.toList_none, List.cons_append, List.nil_append, is2IT, is2RT, if_true, if_false]
  exact hk σ2 _ (LI_9 H (Sc_MS H.2.1 f2) (Sc_Fr9 f2))
theorem lc_11 (h : LI (L, xs) σ S) (b1 : inB (x + 1) L = true) (b2 : inB (x + 2) L = true) (b3 : inB (x + 3) L = true) (b4 : inB (x + 4) L = true) (b5 : inB (x + 5) L = true) (hk : ∀ σ' S', LI (L, xs) σ' S' → At 100 kL_law 1492 [vR 0 40, vR 0 8, vR 97 9, vI x] [] σ' Q) : At 100 kL_law 582 [vR 0 40, vR 0 8, vR 97 9, vI x] [] σ Q := by
  have hX : sX σ = (L, xs) := h.2.2.2.1
  simp only [z_L_law_582, z_L_law_583, z_L_law_584, z_L_law_585, z_L_law_586, zLs_587, z_L_law_588, hX, b1, b2, b3, b4, b5, true_and, Option.toList_some, Option.toList_none, List.cons_append, List.nil_append, is2IT, is2RT, if_true, if_false]
  refine x_power (d := 87) h.1 (fun σ1 f => ?_)
  have H := LH_Xc h f
  have hX : sX σ1 = (L, xs) := H.2.2.2.1
  simp only [z_L_law_591, z_L_law_592, z_L_law_593, z_L_law_594, z_L_law_595, zLs_596, z_L_law_597, hX, b1, b2, b3, b4, b5, true_and, Option.toList_some, Option.toList_none, List.cons_append, List.nil_append, is2IT, is2RT, if_true, if_false]
  refine m_power (d := 85) (MS_RQ H.2.1) (fun σ2 f2 => ?_)
  simp only [z_L_law_600, z_L_law_601, lg_cmp_eq, true_and, Option.toList_some, Option.toList_none, List.cons_append, List.nil_append, is2IT, is2RT, if_true, if_false]
  exact hk σ2 _ (LI_9 H (Sc_MS H.2.1 f2) (Sc_Fr9 f2))
theorem lc_12 (h : LI (L, xs) σ S) (b1 : inB (x + 1) L = true) (b2 : inB (x + 2) L = true) (b3 : inB (x + 3) L = true) (b4 : inB (x + 4) L = true) (b5 : inB (x + 5) L = true) (hk : ∀ σ' S', LI (L, xs) σ' S' → At 100 kL_law 1492 [vR 0 40, vR 0 8, vR 97 9, vI x] [] σ' Q) : At 100 kL_law 606 [vR 0 40, vR 0 8, vR 97 9, vI x] [] σ Q := by
  have hX : sX σ = (L, xs) := h.2.2.2.1
  simp only [z_L_law_606, z_L_law_607, z_L_law_608, z_L_law_609, z_L_law_610, zLs_611, z_L_law_612, z_L_law_613, z_L_law_614, z_L_law_615, zLs_616, z_L_law_617, z_L_law_618, z_L_law_619, z_L_law_620, zLs_621, z_L_law_622, hX, b1, b2, b3, b4, b5, true_and, Option.toList_some, Option.toList_none, List.cons_append, List.nil_append, is2IT, is2RT, if_true, if_false]
  refine x_odds (d := 86) h.1 (fun σ1 f => ?_)
  have H := LH_Xc h f
  have hX : sX σ1 = (L, xs) := H.2.2.2.1
  simp only [z_L_law_625, z_L_law_626, z_L_law_627, z_L_law_628, z_L_law_629, zLs_630, z_L_law_631, z_L_law_632, z_L_law_633, z_L_law_634, zLs_635, z_L_law_636, z_L_law_637, z_L_law_638, z_L_law_639, zLs_640, z_L_law_641, hX, b1, b2, b3, b4, b5, true_and, Option.toList_some, Option.toList_none, List.cons_append, List.nil_append, is2IT, is2RT, if_true, if_false]
  refine m_odds (d := 84) (MS_RQ H.2.1) (fun σ2 f2 => ?_)
  simp only [z_L_law_644, z_L_law_645, lg_cmp_eq, true_and, Option.toList_some, Option.toList_none, List.cons_append, List.nil_append, is2IT, is2RT, if_true, if_false]
  exact hk σ2 _ (LI_9 H (Sc_MS H.2.1 f2) (Sc_Fr9 f2))
theorem lc_13 (h : LI (L, xs) σ S) (b1 : inB (x + 1) L = true) (b2 : inB (x + 2) L = true) (b3 : inB (x + 3) L = true) (b4 : inB (x + 4) L = true) (b5 : inB (x + 5) L = true) (hk : ∀ σ' S', LI (L, xs) σ' S' → At 100 kL_law 1492 [vR 0 40, vR 0 8, vR 97 9, vI x] [] σ' Q) : At 100 kL_law 650 [vR 0 40, vR 0 8, vR 97 9, vI x] [] σ Q := by
  have hX : sX σ = (L, xs) := h.2.2.2.1
  simp only [z_L_law_650, z_L_law_651, z_L_law_652, z_L_law_653, z_L_law_654, zLs_655, z_L_law_656, z_L_law_657, z_L_law_658, z_L_law_659, zLs_660, z_L_law_661, z_L_law_662, z_L_law_663, z_L_law_664, zLs_665, z_L_law_666, z_L_law_667, z_L_law_668, z_L_law_669, zLs_670, z_L_law_671, z_L_law_672, z_L_law_673, z_L_law_674, zLs_675, z_L_law_676, hX, b1, b2, b3, b4, b5, true_and, Option.toList_some, Option.toList_none, List.cons_append, List.nil_append, is2IT, is2RT, if_true, if_false]
  refine x_both (d := 87) h.1 (fun σ1 f => ?_)
  have H := LH_Xc h f
  have hX : sX σ1 = (L, xs) := H.2.2.2.1
  simp only [z_L_law_679, z_L_law_680, z_L_law_681, z_L_law_682, z_L_law_683, zLs_684, z_L_law_685, z_L_law_686, z_L_law_687, z_L_law_688, zLs_689, z_L_law_690, z_L_law_691, z_L_law_692, z_L_law_693, zLs_694, z_L_law_695, z_L_law_696, z_L_law_697, z_L_law_698, zLs_699, z_L_law_700, z_L_law_701, z_L_law_702, z_L_law_703, zLs_704, z_L_law_705, hX, b1, b2, b3, b4, b5, true_and, Option.toList_some, Option.toList_none, List.cons_append, List.nil_append, is2IT, is2RT, if_true, if_false]
  refine m_both (d := 84) (MS_RQ H.2.1) (fun σ2 f2 => ?_)
  simp only [z_L_law_708, z_L_law_709, lg_cmp_eq, true_and, Option.toList_some, Option.toList_none, List.cons_append, List.nil_append, is2IT, is2RT, if_true, if_false]
  exact hk σ2 _ (LI_9 H (Sc_MS H.2.1 f2) (Sc_Fr9 f2))
theorem lc_14 (h : LI (L, xs) σ S) (b1 : inB (x + 1) L = true) (b2 : inB (x + 2) L = true) (b3 : inB (x + 3) L = true) (b4 : inB (x + 4) L = true) (b5 : inB (x + 5) L = true) (hk : ∀ σ' S', LI (L, xs) σ' S' → At 100 kL_law 1492 [vR 0 40, vR 0 8, vR 97 9, vI x] [] σ' Q) : At 100 kL_law 714 [vR 0 40, vR 0 8, vR 97 9, vI x] [] σ Q := by
  have hX : sX σ = (L, xs) := h.2.2.2.1
  simp only [z_L_law_714, z_L_law_715, z_L_law_716, z_L_law_717, z_L_law_718, zLs_719, z_L_law_720, z_L_law_721, z_L_law_722, z_L_law_723, zLs_724, z_L_law_725, hX, b1, b2, b3, b4, b5, true_and, Option.toList_some, Option.toList_none, List.cons_append, List.nil_append, is2IT, is2RT, if_true, if_false]
  refine x_shown (d := 87) h.1 (fun σ1 f => ?_)
  have H := LH_Xc h f
  have hX : sX σ1 = (L, xs) := H.2.2.2.1
  simp only [z_L_law_728, z_L_law_729, z_L_law_730, z_L_law_731, z_L_law_732, zLs_733, z_L_law_734, z_L_law_735, z_L_law_736, z_L_law_737, zLs_738, z_L_law_739, hX, b1, b2, b3, b4, b5, true_and, Option.toList_some, Option.toList_none, List.cons_append, List.nil_append, is2IT, is2RT, if_true, if_false]
  refine m_shown (d := 84) H.2.1 (fun σ2 f2 => ?_)
  simp only [z_L_law_742, z_L_law_743, lg_cmp_eq, true_and, Option.toList_some, Option.toList_none, List.cons_append, List.nil_append, is2IT, is2RT, if_true, if_false]
  exact hk σ2 _ (LI_9 H (Sc_MS H.2.1 f2) (Sc_Fr9 f2))
theorem lc_15 (h : LI (L, xs) σ S) (b1 : inB (x + 1) L = true) (b2 : inB (x + 2) L = true) (b3 : inB (x + 3) L = true) (b4 : inB (x + 4) L = true) (b5 : inB (x + 5) L = true) (hk : ∀ σ' S', LI (L, xs) σ' S' → At 100 kL_law 1492 [vR 0 40, vR 0 8, vR 97 9, vI x] [] σ' Q) : At 100 kL_law 748 [vR 0 40, vR 0 8, vR 97 9, vI x] [] σ Q := by
  have hX : sX σ = (L, xs) := h.2.2.2.1
  simp only [z_L_law_748, z_L_law_749, z_L_law_750, z_L_law_751, z_L_law_752, zLs_753, z_L_law_754, z_L_law_755, z_L_law_756, z_L_law_757, zLs_758, z_L_law_759, z_L_law_760, z_L_law_761, z_L_law_762, zLs_763, z_L_law_764, z_L_law_765, z_L_law_766, z_L_law_767, zLs_768, z_L_law_769, z_L_law_770, z_L_law_771, z_L_law_772, zLs_773, z_L_law_774, hX, b1, b2, b3, b4, b5, true_and, Option.toList_some, Option.toList_none, List.cons_append, List.nil_append, is2IT, is2RT, if_true, if_false]
  refine x_would (d := 86) h.1 (fun σ1 f => ?_)
  have H := LH_Xc h f
  have hX : sX σ1 = (L, xs) := H.2.2.2.1
  simp only [z_L_law_777, z_L_law_778, z_L_law_779, z_L_law_780, z_L_law_781, zLs_782, z_L_law_783, z_L_law_784, z_L_law_785, z_L_law_786, zLs_787, z_L_law_788, z_L_law_789, z_L_law_790, z_L_law_791, zLs_792, z_L_law_793, z_L_law_794, z_L_law_795, z_L_law_796, zLs_797, z_L_law_798, z_L_law_799, z_L_law_800, z_L_law_801, zLs_802, z_L_law_803, hX, b1, b2, b3, b4, b5, true_and, Option.toList_some, Option.toList_none, List.cons_append, List.nil_append, is2IT, is2RT, if_true, if_false]
  refine m_would (d := 83) (MS_RQ H.2.1) (fun σ2 f2 => ?_)
  simp only [z_L_law_806, z_L_law_807, lg_cmp_eq, true_and, Option.toList_some, Option.toList_none, List.cons_append, List.nil_append, is2IT, is2RT, if_true, if_false]
  exact hk σ2 _ (LI_9 H (Sa_MS H.2.1 f2) (Sa_Fr9 f2))
theorem lc_16 (h : LI (L, xs) σ S) (b1 : inB (x + 1) L = true) (b2 : inB (x + 2) L = true) (b3 : inB (x + 3) L = true) (b4 : inB (x + 4) L = true) (b5 : inB (x + 5) L = true) (hk : ∀ σ' S', LI (L, xs) σ' S' → At 100 kL_law 1492 [vR 0 40, vR 0 8, vR 97 9, vI x] [] σ' Q) : At 100 kL_law 812 [vR 0 40, vR 0 8, vR 97 9, vI x] [] σ Q := by
  have hX : sX σ = (L, xs) := h.2.2.2.1
  simp only [z_L_law_812, z_L_law_813, z_L_law_814, z_L_law_815, z_L_law_816, zLs_817, z_L_law_818, z_L_law_819, z_L_law_820, z_L_law_821, zLs_822, z_L_law_823, z_L_law_824, z_L_law_825, z_L_law_826, zLs_827, z_L_law_828, z_L_law_829, z_L_law_830, z_L_law_831, zLs_832, z_L_law_833, hX, b1, b2, b3, b4, b5, true_and, Option.toList_some, Option.toList_none, List.cons_append, List.nil_append, is2IT, is2RT, if_true, if_false]
  refine x_without (d := 86) h.1 (fun σ1 f => ?_)
  have H := LH_Xc h f
  have hX : sX σ1 = (L, xs) := H.2.2.2.1
  simp only [z_L_law_836, z_L_law_837, z_L_law_838, z_L_law_839, z_L_law_840, zLs_841, z_L_law_842, z_L_law_843, z_L_law_844, z_L_law_845, zLs_846, z_L_law_847, z_L_law_848, z_L_law_849, z_L_law_850, zLs_851, z_L_law_852, z_L_law_853, z_L_law_854, z_L_law_855, zLs_856, z_L_law_857, hX, b1, b2, b3, b4, b5, true_and, Option.toList_some, Option.toList_none, List.cons_append, List.nil_append, is2IT, is2RT, if_true, if_false]
  refine m_without (d := 83) (MS_RQ H.2.1) (fun σ2 f2 => ?_)
  simp only [z_L_law_860, z_L_law_861, lg_cmp_eq, true_and, Option.toList_some, Option.toList_none, List.cons_append, List.nil_append, is2IT, is2RT, if_true, if_false]
  exact hk σ2 _ (LI_9 H (Sa_MS H.2.1 f2) (Sa_Fr9 f2))
theorem lc_17 (h : LI (L, xs) σ S) (b1 : inB (x + 1) L = true) (b2 : inB (x + 2) L = true) (b3 : inB (x + 3) L = true) (b4 : inB (x + 4) L = true) (b5 : inB (x + 5) L = true) (hk : ∀ σ' S', LI (L, xs) σ' S' → At 100 kL_law 1492 [vR 0 40, vR 0 8, vR 97 9, vI x] [] σ' Q) : At 100 kL_law 866 [vR 0 40, vR 0 8, vR 97 9, vI x] [] σ Q := by
  have hX : sX σ = (L, xs) := h.2.2.2.1
  simp only [z_L_law_866, z_L_law_867, z_L_law_868, z_L_law_869, z_L_law_870, zLs_871, z_L_law_872, hX, b1, b2, b3, b4, b5, true_and, Option.toList_some, Option.toList_none, List.cons_append, List.nil_append, is2IT, is2RT, if_true, if_false]
  refine x_likely (d := 87) h.1 (fun σ1 f => ?_)
  have H := LH_Xc h f
  have hX : sX σ1 = (L, xs) := H.2.2.2.1
  simp only [z_L_law_875, z_L_law_876, z_L_law_877, z_L_law_878, z_L_law_879, zLs_880, z_L_law_881, hX, b1, b2, b3, b4, b5, true_and, Option.toList_some, Option.toList_none, List.cons_append, List.nil_append, is2IT, is2RT, if_true, if_false]
  refine m_likely (d := 85) (MS_RQ H.2.1) (fun σ2 f2 => ?_)
  simp only [z_L_law_884, true_and, Option.toList_some, Option.toList_none, List.cons_append, List.nil_append, is2IT, is2RT, if_true, if_false]
  exact hk σ2 _ (LI_9 H (Sc_MS H.2.1 f2) (Sc_Fr9 f2))
theorem lc_18 (h : LI (L, xs) σ S) (b1 : inB (x + 1) L = true) (b2 : inB (x + 2) L = true) (b3 : inB (x + 3) L = true) (b4 : inB (x + 4) L = true) (b5 : inB (x + 5) L = true) (hk : ∀ σ' S', LI (L, xs) σ' S' → At 100 kL_law 1492 [vR 0 40, vR 0 8, vR 97 9, vI x] [] σ' Q) : At 100 kL_law 889 [vR 0 40, vR 0 8, vR 97 9, vI x] [] σ Q := by
  have hX : sX σ = (L, xs) := h.2.2.2.1
  simp only [z_L_law_889, z_L_law_890, z_L_law_891, z_L_law_892, z_L_law_893, zLs_894, z_L_law_895, z_L_law_896, z_L_law_897, z_L_law_898, zLs_899, z_L_law_900, hX, b1, b2, b3, b4, b5, true_and, Option.toList_some, Option.toList_none, List.cons_append, List.nil_append, is2IT, is2RT, if_true, if_false]
  refine x_apart (d := 86) h.1 ?_
  have H := LH_rf h
  simp only [z_L_law_903, z_L_law_904, z_L_law_905, z_L_law_906, z_L_law_907, zLs_908, z_L_law_909, z_L_law_910, z_L_law_911, z_L_law_912, zLs_913, z_L_law_914, hX, b1, b2, b3, b4, b5, true_and, Option.toList_some, Option.toList_none, List.cons_append, List.nil_append, is2IT, is2RT, if_true, if_false]
  refine m_apart (d := 80) H.2.1.1 ?_
  simp only [z_L_law_917, true_and, Option.toList_some, Option.toList_none, List.cons_append, List.nil_append, is2IT, is2RT, if_true, if_false]
  exact hk σ _ h
theorem lc_19 (h : LI (L, xs) σ S) (b1 : inB (x + 1) L = true) (b2 : inB (x + 2) L = true) (b3 : inB (x + 3) L = true) (b4 : inB (x + 4) L = true) (b5 : inB (x + 5) L = true) (hk : ∀ σ' S', LI (L, xs) σ' S' → At 100 kL_law 1492 [vR 0 40, vR 0 8, vR 97 9, vI x] [] σ' Q) : At 100 kL_law 922 [vR 0 40, vR 0 8, vR 97 9, vI x] [] σ Q := by
  have hX : sX σ = (L, xs) := h.2.2.2.1
  simp only [z_L_law_922, z_L_law_923, z_L_law_924, z_L_law_925, z_L_law_926, zLs_927, z_L_law_928, z_L_law_929, z_L_law_930, z_L_law_931, zLs_932, z_L_law_933, z_L_law_934, z_L_law_935, z_L_law_936, zLs_937, z_L_law_938, hX, b1, b2, b3, b4, b5, true_and, Option.toList_some, Option.toList_none, List.cons_append, List.nil_append, is2IT, is2RT, if_true, if_false]
  refine x_tells (d := 86) h.1 (fun σ1 f => ?_)
  have H := LH_Xc h f
  have hX : sX σ1 = (L, xs) := H.2.2.2.1
  simp only [z_L_law_941, z_L_law_942, z_L_law_943, z_L_law_944, z_L_law_945, zLs_946, z_L_law_947, z_L_law_948, z_L_law_949, z_L_law_950, zLs_951, z_L_law_952, z_L_law_953, z_L_law_954, z_L_law_955, zLs_956, z_L_law_957, hX, b1, b2, b3, b4, b5, true_and, Option.toList_some, Option.toList_none, List.cons_append, List.nil_append, is2IT, is2RT, if_true, if_false]
  refine m_tells (d := 84) (MS_RQ H.2.1) (fun σ2 f2 => ?_)
  simp only [z_L_law_960, z_L_law_961, lg_cmp_eq, true_and, Option.toList_some, Option.toList_none, List.cons_append, List.nil_append, is2IT, is2RT, if_true, if_false]
  exact hk σ2 _ (LI_9 H (Sc_MS H.2.1 f2) (Sc_Fr9 f2))
theorem lc_20 (h : LI (L, xs) σ S) (b1 : inB (x + 1) L = true) (b2 : inB (x + 2) L = true) (b3 : inB (x + 3) L = true) (b4 : inB (x + 4) L = true) (b5 : inB (x + 5) L = true) (hk : ∀ σ' S', LI (L, xs) σ' S' → At 100 kL_law 1492 [vR 0 40, vR 0 8, vR 97 9, vI x] [] σ' Q) : At 100 kL_law 966 [vR 0 40, vR 0 8, vR 97 9, vI x] [] σ Q := by
  have hX : sX σ = (L, xs) := h.2.2.2.1
  simp only [z_L_law_966, z_L_law_967, z_L_law_968, z_L_law_969, z_L_law_970, zLs_971, z_L_law_972, hX, b1, b2, b3, b4, b5, true_and, Option.toList_some, Option.toList_none, List.cons_append, List.nil_append, is2IT, is2RT, if_true, if_false]
  refine x_telling (d := 86) h.1 (fun σ1 f => ?_)
  have H := LH_Xc h f
  have hX : sX σ1 = (L, xs) := H.2.2.2.1
  simp only [z_L_law_975, z_L_law_976, z_L_law_977, z_L_law_978, z_L_law_979, zLs_980, z_L_law_981, hX, b1, b2, b3, b4, b5, true_and, Option.toList_some, Option.toList_none, List.cons_append, List.nil_append, is2IT, is2RT, if_true, if_false]
  refine m_telling (d := 84) (MS_RQ H.2.1) (fun σ2 f2 => ?_)
  simp only [z_L_law_984, true_and, Option.toList_some, Option.toList_none, List.cons_append, List.nil_append, is2IT, is2RT, if_true, if_false]
  exact hk σ2 _ (LI_9 H (Sc_MS H.2.1 f2) (Sc_Fr9 f2))
theorem lc_21 (h : LI (L, xs) σ S) (b1 : inB (x + 1) L = true) (b2 : inB (x + 2) L = true) (b3 : inB (x + 3) L = true) (b4 : inB (x + 4) L = true) (b5 : inB (x + 5) L = true) (hk : ∀ σ' S', LI (L, xs) σ' S' → At 100 kL_law 1492 [vR 0 40, vR 0 8, vR 97 9, vI x] [] σ' Q) : At 100 kL_law 989 [vR 0 40, vR 0 8, vR 97 9, vI x] [] σ Q := by
  have hX : sX σ = (L, xs) := h.2.2.2.1
  simp only [z_L_law_989, z_L_law_990, z_L_law_991, z_L_law_992, z_L_law_993, zLs_994, z_L_law_995, z_L_law_996, z_L_law_997, z_L_law_998, zLs_999, z_L_law_1000, hX, b1, b2, b3, b4, b5, true_and, Option.toList_some, Option.toList_none, List.cons_append, List.nil_append, is2IT, is2RT, if_true, if_false]
  refine x_leaves (d := 95) h.1 (fun σ1 f => ?_)
  have H := LH_Xc h f
  have hX : sX σ1 = (L, xs) := H.2.2.2.1
  simp only [z_L_law_1003, z_L_law_1004, z_L_law_1005, z_L_law_1006, z_L_law_1007, zLs_1008, z_L_law_1009, z_L_law_1010, z_L_law_1011, z_L_law_1012, zLs_1013, z_L_law_1014, hX, b1, b2, b3, b4, b5, true_and, Option.toList_some, Option.toList_none, List.cons_append, List.nil_append, is2IT, is2RT, if_true, if_false]
  refine m_leaves (d := 95) H.2.1.1 (fun σ2 f2 => ?_)
  simp only [z_L_law_1017, true_and, Option.toList_some, Option.toList_none, List.cons_append, List.nil_append, is2IT, is2RT, if_true, if_false]
  exact hk σ2 _ (LI_9 H (Sc_MS H.2.1 f2) (Sc_Fr9 f2))
theorem lc_22 (h : LI (L, xs) σ S) (b1 : inB (x + 1) L = true) (b2 : inB (x + 2) L = true) (b3 : inB (x + 3) L = true) (b4 : inB (x + 4) L = true) (b5 : inB (x + 5) L = true) (hk : ∀ σ' S', LI (L, xs) σ' S' → At 100 kL_law 1492 [vR 0 40, vR 0 8, vR 97 9, vI x] [] σ' Q) : At 100 kL_law 1022 [vR 0 40, vR 0 8, vR 97 9, vI x] [] σ Q := by
  have hX : sX σ = (L, xs) := h.2.2.2.1
  simp only [z_L_law_1022, z_L_law_1023, z_L_law_1024, z_L_law_1025, z_L_law_1026, zLs_1027, z_L_law_1028, z_L_law_1029, z_L_law_1030, z_L_law_1031, zLs_1032, z_L_law_1033, hX, b1, b2, b3, b4, b5, true_and, Option.toList_some, Option.toList_none, List.cons_append, List.nil_append, is2IT, is2RT, if_true, if_false]
  refine x_cluster (d := 95) h.1 (fun σ1 f => ?_)
  have H := LH_Xc h f
  have hX : sX σ1 = (L, xs) := H.2.2.2.1
  simp only [z_L_law_1036, z_L_law_1037, z_L_law_1038, z_L_law_1039, z_L_law_1040, zLs_1041, z_L_law_1042, z_L_law_1043, z_L_law_1044, z_L_law_1045, zLs_1046, z_L_law_1047, hX, b1, b2, b3, b4, b5, true_and, Option.toList_some, Option.toList_none, List.cons_append, List.nil_append, is2IT, is2RT, if_true, if_false]
  refine m_cluster (d := 94) H.2.1.1 (fun σ2 f2 => ?_)
  simp only [z_L_law_1050, true_and, Option.toList_some, Option.toList_none, List.cons_append, List.nil_append, is2IT, is2RT, if_true, if_false]
  exact hk σ2 _ (LI_9 H (Sc_MS H.2.1 f2) (Sc_Fr9 f2))
theorem lc_23 (h : LI (L, xs) σ S) (b1 : inB (x + 1) L = true) (b2 : inB (x + 2) L = true) (b3 : inB (x + 3) L = true) (b4 : inB (x + 4) L = true) (b5 : inB (x + 5) L = true) (hk : ∀ σ' S', LI (L, xs) σ' S' → At 100 kL_law 1492 [vR 0 40, vR 0 8, vR 97 9, vI x] [] σ' Q) : At 100 kL_law 1055 [vR 0 40, vR 0 8, vR 97 9, vI x] [] σ Q := by
  have hX : sX σ = (L, xs) := h.2.2.2.1
  simp only [z_L_law_1055, z_L_law_1056, z_L_law_1057, z_L_law_1058, z_L_law_1059, zLs_1060, z_L_law_1061, hX, b1, b2, b3, b4, b5, true_and, Option.toList_some, Option.toList_none, List.cons_append, List.nil_append, is2IT, is2RT, if_true, if_false]
  refine x_cost (d := 95) h.1 (fun σ1 f => ?_)
  have H := LH_Xc h f
  have hX : sX σ1 = (L, xs) := H.2.2.2.1
  simp only [z_L_law_1064, z_L_law_1065, z_L_law_1066, z_L_law_1067, z_L_law_1068, zLs_1069, z_L_law_1070, hX, b1, b2, b3, b4, b5, true_and, Option.toList_some, Option.toList_none, List.cons_append, List.nil_append, is2IT, is2RT, if_true, if_false]
  refine m_cost (d := 95) H.2.1 (fun σ2 f2 => ?_)
  simp only [z_L_law_1073, true_and, Option.toList_some, Option.toList_none, List.cons_append, List.nil_append, is2IT, is2RT, if_true, if_false]
  exact hk σ2 _ (LI_9 H (Sc_MS H.2.1 f2) (Sc_Fr9 f2))
theorem lc_24 (h : LI (L, xs) σ S) (b1 : inB (x + 1) L = true) (b2 : inB (x + 2) L = true) (b3 : inB (x + 3) L = true) (b4 : inB (x + 4) L = true) (b5 : inB (x + 5) L = true) (hk : ∀ σ' S', LI (L, xs) σ' S' → At 100 kL_law 1492 [vR 0 40, vR 0 8, vR 97 9, vI x] [] σ' Q) : At 100 kL_law 1078 [vR 0 40, vR 0 8, vR 97 9, vI x] [] σ Q := by
  have hX : sX σ = (L, xs) := h.2.2.2.1
  simp only [z_L_law_1078, z_L_law_1079, z_L_law_1080, z_L_law_1081, z_L_law_1082, zLs_1083, z_L_law_1084, z_L_law_1085, z_L_law_1086, z_L_law_1087, zLs_1088, z_L_law_1089, hX, b1, b2, b3, b4, b5, true_and, Option.toList_some, Option.toList_none, List.cons_append, List.nil_append, is2IT, is2RT, if_true, if_false]
  refine x_drawn (d := 95) h.1 (fun σ1 f => ?_)
  have H := LH_Xc h f
  have hX : sX σ1 = (L, xs) := H.2.2.2.1
  simp only [z_L_law_1092, z_L_law_1093, z_L_law_1094, z_L_law_1095, z_L_law_1096, zLs_1097, z_L_law_1098, z_L_law_1099, z_L_law_1100, z_L_law_1101, zLs_1102, z_L_law_1103, hX, b1, b2, b3, b4, b5, true_and, Option.toList_some, Option.toList_none, List.cons_append, List.nil_append, is2IT, is2RT, if_true, if_false]
  refine m_drawn (d := 95) H.2.1.1 (fun σ2 f2 => ?_)
  simp only [z_L_law_1106, true_and, Option.toList_some, Option.toList_none, List.cons_append, List.nil_append, is2IT, is2RT, if_true, if_false]
  exact hk σ2 _ (LI_9 H (Sc_MS H.2.1 f2) (Sc_Fr9 f2))
theorem lc_25 (h : LI (L, xs) σ S) (b1 : inB (x + 1) L = true) (b2 : inB (x + 2) L = true) (b3 : inB (x + 3) L = true) (b4 : inB (x + 4) L = true) (b5 : inB (x + 5) L = true) (hk : ∀ σ' S', LI (L, xs) σ' S' → At 100 kL_law 1492 [vR 0 40, vR 0 8, vR 97 9, vI x] [] σ' Q) : At 100 kL_law 1111 [vR 0 40, vR 0 8, vR 97 9, vI x] [] σ Q := by
  have hX : sX σ = (L, xs) := h.2.2.2.1
  simp only [z_L_law_1111, z_L_law_1112, z_L_law_1113, z_L_law_1114, z_L_law_1115, zLs_1116, z_L_law_1117, z_L_law_1118, z_L_law_1119, z_L_law_1120, zLs_1121, z_L_law_1122, z_L_law_1123, z_L_law_1124, z_L_law_1125, zLs_1126, z_L_law_1127, z_L_law_1128, z_L_law_1129, z_L_law_1130, zLs_1131, z_L_law_1132, z_L_law_1133, z_L_law_1134, z_L_law_1135, zLs_1136, z_L_law_1137, hX, b1, b2, b3, b4, b5, true_and, Option.toList_some, Option.toList_none, List.cons_append, List.nil_append, is2IT, is2RT, if_true, if_false]
  refine x_chance (d := 95) h.1 (fun σ1 f => ?_)
  have H := LH_Xc h f
  have hX : sX σ1 = (L, xs) := H.2.2.2.1
  simp only [z_L_law_1140, z_L_law_1141, z_L_law_1142, z_L_law_1143, z_L_law_1144, zLs_1145, z_L_law_1146, z_L_law_1147, z_L_law_1148, z_L_law_1149, zLs_1150, z_L_law_1151, z_L_law_1152, z_L_law_1153, z_L_law_1154, zLs_1155, z_L_law_1156, z_L_law_1157, z_L_law_1158, z_L_law_1159, zLs_1160, z_L_law_1161, z_L_law_1162, z_L_law_1163, z_L_law_1164, zLs_1165, z_L_law_1166, hX, b1, b2, b3, b4, b5, true_and, Option.toList_some, Option.toList_none, List.cons_append, List.nil_append, is2IT, is2RT, if_true, if_false]
  refine m_chance (d := 95) H.2.1.1 (fun σ2 f2 => ?_)
  simp only [z_L_law_1169, true_and, Option.toList_some, Option.toList_none, List.cons_append, List.nil_append, is2IT, is2RT, if_true, if_false]
  exact hk σ2 _ (LI_9 H (Sc_MS H.2.1 f2) (Sc_Fr9 f2))
theorem lc_26 (h : LI (L, xs) σ S) (b1 : inB (x + 1) L = true) (b2 : inB (x + 2) L = true) (b3 : inB (x + 3) L = true) (b4 : inB (x + 4) L = true) (b5 : inB (x + 5) L = true) (hk : ∀ σ' S', LI (L, xs) σ' S' → At 100 kL_law 1492 [vR 0 40, vR 0 8, vR 97 9, vI x] [] σ' Q) : At 100 kL_law 1174 [vR 0 40, vR 0 8, vR 97 9, vI x] [] σ Q := by
  have hX : sX σ = (L, xs) := h.2.2.2.1
  simp only [z_L_law_1174, z_L_law_1175, z_L_law_1176, z_L_law_1177, z_L_law_1178, zLs_1179, z_L_law_1180, hX, b1, b2, b3, b4, b5, true_and, Option.toList_some, Option.toList_none, List.cons_append, List.nil_append, is2IT, is2RT, if_true, if_false]
  refine x_film (d := 87) h.1 (fun σ1 g f => ?_)
  have H := LH_Fc h g f
  have hX : sX σ1 = (L, xs) := H.2.2.2.1
  simp only [z_L_law_1183, z_L_law_1184, z_L_law_1185, z_L_law_1186, z_L_law_1187, zLs_1188, z_L_law_1189, hX, b1, b2, b3, b4, b5, true_and, Option.toList_some, Option.toList_none, List.cons_append, List.nil_append, is2IT, is2RT, if_true, if_false]
  refine m_film (d := 85) H.2.1 (fun σ2 g2 f2 => ?_)
  simp only [z_L_law_1192, true_and, Option.toList_some, Option.toList_none, List.cons_append, List.nil_append, is2IT, is2RT, if_true, if_false]
  exact hk σ2 _ (LI_9 H g2 f2)
theorem lc_27 (h : LI (L, xs) σ S) (b1 : inB (x + 1) L = true) (b2 : inB (x + 2) L = true) (b3 : inB (x + 3) L = true) (b4 : inB (x + 4) L = true) (b5 : inB (x + 5) L = true) (hk : ∀ σ' S', LI (L, xs) σ' S' → At 100 kL_law 1492 [vR 0 40, vR 0 8, vR 97 9, vI x] [] σ' Q) : At 100 kL_law 1197 [vR 0 40, vR 0 8, vR 97 9, vI x] [] σ Q := by
  have hX : sX σ = (L, xs) := h.2.2.2.1
  simp only [z_L_law_1197, z_L_law_1198, z_L_law_1199, z_L_law_1200, z_L_law_1201, zLs_1202, z_L_law_1203, z_L_law_1204, z_L_law_1205, z_L_law_1206, zLs_1207, z_L_law_1208, hX, b1, b2, b3, b4, b5, true_and, Option.toList_some, Option.toList_none, List.cons_append, List.nil_append, is2IT, is2RT, if_true, if_false]
  refine x_lay (d := 98) h.1 (fun σ1 g f => ?_)
  have H := LH_Fc h g f
  have hX : sX σ1 = (L, xs) := H.2.2.2.1
  simp only [z_L_law_1211, z_L_law_1212, z_L_law_1213, z_L_law_1214, z_L_law_1215, zLs_1216, z_L_law_1217, z_L_law_1218, z_L_law_1219, z_L_law_1220, zLs_1221, z_L_law_1222, hX, b1, b2, b3, b4, b5, true_and, Option.toList_some, Option.toList_none, List.cons_append, List.nil_append, is2IT, is2RT, if_true, if_false]
  refine m_lay (d := 97) H.2.1 (fun σ2 g2 f2 => ?_)
  simp only [z_L_law_1225, true_and, Option.toList_some, Option.toList_none, List.cons_append, List.nil_append, is2IT, is2RT, if_true, if_false]
  exact hk σ2 _ (LI_9 H g2 f2)
theorem lc_28 (h : LI (L, xs) σ S) (b1 : inB (x + 1) L = true) (b2 : inB (x + 2) L = true) (b3 : inB (x + 3) L = true) (b4 : inB (x + 4) L = true) (b5 : inB (x + 5) L = true) (hk : ∀ σ' S', LI (L, xs) σ' S' → At 100 kL_law 1492 [vR 0 40, vR 0 8, vR 97 9, vI x] [] σ' Q) : At 100 kL_law 1230 [vR 0 40, vR 0 8, vR 97 9, vI x] [] σ Q := by
  have hX : sX σ = (L, xs) := h.2.2.2.1
  simp only [z_L_law_1230, z_L_law_1231, hX, b1, b2, b3, b4, b5, true_and, Option.toList_some, Option.toList_none, List.cons_append, List.nil_append, is2IT, is2RT, if_true, if_false]
  refine x_image (d := 97) h.1 (fun σ1 g f => ?_)
  have H := LH_Fc h g f
  have hX : sX σ1 = (L, xs) := H.2.2.2.1
  simp only [z_L_law_1234, z_L_law_1235, hX, b1, b2, b3, b4, b5, true_and, Option.toList_some, Option.toList_none, List.cons_append, List.nil_append, is2IT, is2RT, if_true, if_false]
  refine m_image (d := 98) H.2.1 (fun σ2 g2 f2 => ?_)
  simp only [z_L_law_1238, true_and, Option.toList_some, Option.toList_none, List.cons_append, List.nil_append, is2IT, is2RT, if_true, if_false]
  exact hk σ2 _ (LI_9 H g2 f2)
theorem lc_29 (h : LI (L, xs) σ S) (b1 : inB (x + 1) L = true) (b2 : inB (x + 2) L = true) (b3 : inB (x + 3) L = true) (b4 : inB (x + 4) L = true) (b5 : inB (x + 5) L = true) (hk : ∀ σ' S', LI (L, xs) σ' S' → At 100 kL_law 1492 [vR 0 40, vR 0 8, vR 97 9, vI x] [] σ' Q) : At 100 kL_law 1243 [vR 0 40, vR 0 8, vR 97 9, vI x] [] σ Q := by
  have hX : sX σ = (L, xs) := h.2.2.2.1
  simp only [z_L_law_1243, z_L_law_1244, hX, b1, b2, b3, b4, b5, true_and, Option.toList_some, Option.toList_none, List.cons_append, List.nil_append, is2IT, is2RT, if_true, if_false]
  refine x_back (d := 97) h.1 (fun σ1 g f => ?_)
  have H := LH_Fc h g f
  have hX : sX σ1 = (L, xs) := H.2.2.2.1
  simp only [z_L_law_1247, z_L_law_1248, hX, b1, b2, b3, b4, b5, true_and, Option.toList_some, Option.toList_none, List.cons_append, List.nil_append, is2IT, is2RT, if_true, if_false]
  refine m_back (d := 98) H.2.1 (fun σ2 g2 f2 => ?_)
  simp only [z_L_law_1251, true_and, Option.toList_some, Option.toList_none, List.cons_append, List.nil_append, is2IT, is2RT, if_true, if_false]
  exact hk σ2 _ (LI_9 H g2 f2)
theorem lc_30 (h : LI (L, xs) σ S) (b1 : inB (x + 1) L = true) (b2 : inB (x + 2) L = true) (b3 : inB (x + 3) L = true) (b4 : inB (x + 4) L = true) (b5 : inB (x + 5) L = true) (hk : ∀ σ' S', LI (L, xs) σ' S' → At 100 kL_law 1492 [vR 0 40, vR 0 8, vR 97 9, vI x] [] σ' Q) : At 100 kL_law 1256 [vR 0 40, vR 0 8, vR 97 9, vI x] [] σ Q := by
  have hX : sX σ = (L, xs) := h.2.2.2.1
  simp only [z_L_law_1256, z_L_law_1257, z_L_law_1258, z_L_law_1259, z_L_law_1260, zLs_1261, z_L_law_1262, hX, b1, b2, b3, b4, b5, true_and, Option.toList_some, Option.toList_none, List.cons_append, List.nil_append, is2IT, is2RT, if_true, if_false]
  refine x_count (d := 95) h.1 (fun σ1 f => ?_)
  have H := LH_Xc h f
  have hX : sX σ1 = (L, xs) := H.2.2.2.1
  simp only [z_L_law_1265, z_L_law_1266, z_L_law_1267, z_L_law_1268, z_L_law_1269, zLs_1270, z_L_law_1271, hX, b1, b2, b3, b4, b5, true_and, Option.toList_some, Option.toList_none, List.cons_append, List.nil_append, is2IT, is2RT, if_true, if_false]
  refine m_count (d := 96) H.2.1 (fun σ2 f2 => ?_)
  simp only [z_L_law_1274, true_and, Option.toList_some, Option.toList_none, List.cons_append, List.nil_append, is2IT, is2RT, if_true, if_false]
  exact hk σ2 _ (LI_9 H (Sc_MS H.2.1 f2) (Sc_Fr9 f2))
theorem lc_31 (h : LI (L, xs) σ S) (b1 : inB (x + 1) L = true) (b2 : inB (x + 2) L = true) (b3 : inB (x + 3) L = true) (b4 : inB (x + 4) L = true) (b5 : inB (x + 5) L = true) (hk : ∀ σ' S', LI (L, xs) σ' S' → At 100 kL_law 1492 [vR 0 40, vR 0 8, vR 97 9, vI x] [] σ' Q) : At 100 kL_law 1279 [vR 0 40, vR 0 8, vR 97 9, vI x] [] σ Q := by
  have hX : sX σ = (L, xs) := h.2.2.2.1
  simp only [z_L_law_1279, z_L_law_1280, z_L_law_1281, z_L_law_1282, z_L_law_1283, zLs_1284, z_L_law_1285, z_L_law_1286, z_L_law_1287, z_L_law_1288, zLs_1289, z_L_law_1290, z_L_law_1291, z_L_law_1292, z_L_law_1293, zLs_1294, z_L_law_1295, hX, b1, b2, b3, b4, b5, true_and, Option.toList_some, Option.toList_none, List.cons_append, List.nil_append, is2IT, is2RT, if_true, if_false]
  refine x_sheet (d := 97) h.1 (fun σ1 g f => ?_)
  have H := LH_Fc h g f
  have hX : sX σ1 = (L, xs) := H.2.2.2.1
  simp only [z_L_law_1298, z_L_law_1299, z_L_law_1300, z_L_law_1301, z_L_law_1302, zLs_1303, z_L_law_1304, z_L_law_1305, z_L_law_1306, z_L_law_1307, zLs_1308, z_L_law_1309, z_L_law_1310, z_L_law_1311, z_L_law_1312, zLs_1313, z_L_law_1314, hX, b1, b2, b3, b4, b5, true_and, Option.toList_some, Option.toList_none, List.cons_append, List.nil_append, is2IT, is2RT, if_true, if_false]
  refine m_sheet (d := 97) H.2.1 (fun σ2 f2 g2 => ?_)
  simp only [z_L_law_1317, true_and, Option.toList_some, Option.toList_none, List.cons_append, List.nil_append, is2IT, is2RT, if_true, if_false]
  exact hk σ2 _ (LI_9 H g2 (Fr9_sh f2))
theorem lc_32 (h : LI (L, xs) σ S) (b1 : inB (x + 1) L = true) (b2 : inB (x + 2) L = true) (b3 : inB (x + 3) L = true) (b4 : inB (x + 4) L = true) (b5 : inB (x + 5) L = true) (hk : ∀ σ' S', LI (L, xs) σ' S' → At 100 kL_law 1492 [vR 0 40, vR 0 8, vR 97 9, vI x] [] σ' Q) : At 100 kL_law 1322 [vR 0 40, vR 0 8, vR 97 9, vI x] [] σ Q := by
  have hX : sX σ = (L, xs) := h.2.2.2.1
  simp only [z_L_law_1322, z_L_law_1323, z_L_law_1324, z_L_law_1325, z_L_law_1326, zLs_1327, z_L_law_1328, z_L_law_1329, z_L_law_1330, z_L_law_1331, zLs_1332, z_L_law_1333, z_L_law_1334, z_L_law_1335, z_L_law_1336, zLs_1337, z_L_law_1338, z_L_law_1339, z_L_law_1341, z_L_law_1342, z_L_law_1343, z_L_law_1344, z_L_law_1345, zLs_1346, z_L_law_1347, z_L_law_1348, z_L_law_1351, z_L_law_1352, z_L_law_1353, hX, b1, b2, b3, b4, b5, true_and, Option.toList_some, Option.toList_none, List.cons_append, List.nil_append, is2IT, is2RT, if_true, if_false]
  refine x_put (d := 98) h.1 (fun σ1 g f => ?_)
  have H := LH_Fc h g f
  have hX : sX σ1 = (L, xs) := H.2.2.2.1
  simp only [z_L_law_1356, z_L_law_1357, z_L_law_1358, z_L_law_1359, z_L_law_1360, zLs_1361, z_L_law_1362, z_L_law_1363, z_L_law_1364, z_L_law_1365, zLs_1366, z_L_law_1367, z_L_law_1368, z_L_law_1369, z_L_law_1370, zLs_1371, z_L_law_1372, z_L_law_1373, z_L_law_1375, z_L_law_1376, z_L_law_1377, z_L_law_1378, z_L_law_1379, zLs_1380, z_L_law_1381, z_L_law_1382, z_L_law_1385, z_L_law_1386, z_L_law_1387, hX, b1, b2, b3, b4, b5, true_and, Option.toList_some, Option.toList_none, List.cons_append, List.nil_append, is2IT, is2RT, if_true, if_false]
  refine m_put (d := 97) H.2.1 (fun σ2 g2 f2 => ?_)
  simp only [z_L_law_1390, true_and, Option.toList_some, Option.toList_none, List.cons_append, List.nil_append, is2IT, is2RT, if_true, if_false]
  exact hk σ2 _ (LI_9 H g2 f2)
theorem lc_33 (h : LI (L, xs) σ S) (b1 : inB (x + 1) L = true) (b2 : inB (x + 2) L = true) (b3 : inB (x + 3) L = true) (b4 : inB (x + 4) L = true) (b5 : inB (x + 5) L = true) (hk : ∀ σ' S', LI (L, xs) σ' S' → At 100 kL_law 1492 [vR 0 40, vR 0 8, vR 97 9, vI x] [] σ' Q) : At 100 kL_law 1395 [vR 0 40, vR 0 8, vR 97 9, vI x] [] σ Q := by
  have hX : sX σ = (L, xs) := h.2.2.2.1
  simp only [z_L_law_1395, z_L_law_1396, z_L_law_1397, z_L_law_1398, z_L_law_1399, zLs_1400, z_L_law_1401, z_L_law_1402, z_L_law_1403, z_L_law_1404, zLs_1405, z_L_law_1406, hX, b1, b2, b3, b4, b5, true_and, Option.toList_some, Option.toList_none, List.cons_append, List.nil_append, is2IT, is2RT, if_true, if_false]
  refine x_item (d := 98) h.1 ?_
  have H := LH_rf h
  simp only [z_L_law_1409, z_L_law_1410, z_L_law_1411, z_L_law_1412, z_L_law_1413, zLs_1414, z_L_law_1415, z_L_law_1416, z_L_law_1417, z_L_law_1418, zLs_1419, z_L_law_1420, hX, b1, b2, b3, b4, b5, true_and, Option.toList_some, Option.toList_none, List.cons_append, List.nil_append, is2IT, is2RT, if_true, if_false]
  refine m_item (d := 97) H.2.1 ?_
  simp only [z_L_law_1423, z_L_law_1424, lg_cmp_eq, true_and, Option.toList_some, Option.toList_none, List.cons_append, List.nil_append, is2IT, is2RT, if_true, if_false]
  exact hk σ _ h
theorem lc_34 (h : LI (L, xs) σ S) (b1 : inB (x + 1) L = true) (b2 : inB (x + 2) L = true) (b3 : inB (x + 3) L = true) (b4 : inB (x + 4) L = true) (b5 : inB (x + 5) L = true) (hk : ∀ σ' S', LI (L, xs) σ' S' → At 100 kL_law 1492 [vR 0 40, vR 0 8, vR 97 9, vI x] [] σ' Q) : At 100 kL_law 1429 [vR 0 40, vR 0 8, vR 97 9, vI x] [] σ Q := by
  have hX : sX σ = (L, xs) := h.2.2.2.1
  simp only [z_L_law_1429, z_L_law_1430, z_L_law_1431, z_L_law_1432, z_L_law_1433, zLs_1434, z_L_law_1435, z_L_law_1436, z_L_law_1437, z_L_law_1438, zLs_1439, z_L_law_1440, z_L_law_1441, z_L_law_1442, z_L_law_1443, zLs_1444, z_L_law_1445, z_L_law_1446, z_L_law_1447, z_L_law_1448, zLs_1449, z_L_law_1450, z_L_law_1451, z_L_law_1452, z_L_law_1453, zLs_1454, z_L_law_1455, hX, b1, b2, b3, b4, b5, true_and, Option.toList_some, Option.toList_none, List.cons_append, List.nil_append, is2IT, is2RT, if_true, if_false]
  refine x_copy (d := 98) h.1 (fun σ1 g f => ?_)
  have H := LH_Fc h g f
  have hX : sX σ1 = (L, xs) := H.2.2.2.1
  simp only [z_L_law_1458, z_L_law_1459, z_L_law_1460, z_L_law_1461, z_L_law_1462, zLs_1463, z_L_law_1464, z_L_law_1465, z_L_law_1466, z_L_law_1467, zLs_1468, z_L_law_1469, z_L_law_1470, z_L_law_1471, z_L_law_1472, zLs_1473, z_L_law_1474, z_L_law_1475, z_L_law_1476, z_L_law_1477, zLs_1478, z_L_law_1479, z_L_law_1480, z_L_law_1481, z_L_law_1482, zLs_1483, z_L_law_1484, hX, b1, b2, b3, b4, b5, true_and, Option.toList_some, Option.toList_none, List.cons_append, List.nil_append, is2IT, is2RT, if_true, if_false]
  refine m_copy (d := 97) H.2.1 (fun σ2 g2 f2 => ?_)
  simp only [z_L_law_1487, true_and, Option.toList_some, Option.toList_none, List.cons_append, List.nil_append, is2IT, is2RT, if_true, if_false]
  exact hk σ2 _ (LI_9 H g2 f2)
end LAW

/-! the model is made -/
def A_X12_init_456 (σ : St) (f : FI) (g : FL) (a : Nat) (x1 : Int) (r : St × List Vl) : Prop := Gx mt 0 cd_X12_init (il σ f g) (cd_X12_init 456) [some (vR 12 (some a)), some (vI x1)] [] r
def A_X12_init_502 (σ : St) (f : FI) (g : FL) (a : Nat) (x1 : Int) (r : St × List Vl) : Prop := Gx mt 0 cd_X12_init (il σ f g) (cd_X12_init 502) [some (vR 12 (some a)), some (vI x1)] [] r
set_option maxRecDepth 100000 in
theorem bk_X12_init_0 {σ : St} {f : FI} {g : FL} {a : Nat} {r : St × List Vl}  (h : (∀ (q9 : Nat) (σ6 : St) (f7 : FI) (g8 : FL), q9 = nx σ → σ6 = (mk σ 13 200 200) → f7 = up1 f q9 (fun _ => 0) → g8 = up1 g q9 (fun _ => 0) → (∀ (σ12 : St), σ12 = (wR σ6 a 9 (some q9)) → (∀ (q21 : Nat) (σ18 : St) (f19 : FI) (g20 : FL), q21 = nx σ12 → σ18 = (mk σ12 14 3600 3600) → f19 = up1 f7 q21 (fun _ => 0) → g20 = up1 g8 q21 (fun _ => 0) → (∀ (σ24 : St), σ24 = (wR σ18 a 10 (some q21)) → (∀ (q33 : Nat) (σ30 : St) (f31 : FI) (g32 : FL), q33 = nx σ24 → σ30 = (mk σ24 14 3600 3600) → f31 = up1 f19 q33 (fun _ => 0) → g32 = up1 g20 q33 (fun _ => 0) → (∀ (σ36 : St), σ36 = (wR σ30 a 11 (some q33)) → (∀ (q45 : Nat) (σ42 : St) (f43 : FI) (g44 : FL), q45 = nx σ36 → σ42 = (mk σ36 14 3600 3600) → f43 = up1 f31 q45 (fun _ => 0) → g44 = up1 g32 q45 (fun _ => 0) → (∀ (σ48 : St), σ48 = (wR σ42 a 12 (some q45)) → (∀ (q57 : Nat) (σ54 : St) (f55 : FI) (g56 : FL), q57 = nx σ48 → σ54 = (mk σ48 14 12 12) → f55 = up1 f43 q57 (fun _ => 0) → g56 = up1 g44 q57 (fun _ => 0) → (∀ (σ60 : St), σ60 = (wR σ54 a 13 (some q57)) → (∀ (q69 : Nat) (σ66 : St) (f67 : FI) (g68 : FL), q69 = nx σ60 → σ66 = (mk σ60 14 12 12) → f67 = up1 f55 q69 (fun _ => 0) → g68 = up1 g56 q69 (fun _ => 0) → (∀ (σ72 : St), σ72 = (wR σ66 a 14 (some q69)) → (∀ (q81 : Nat) (σ78 : St) (f79 : FI) (g80 : FL), q81 = nx σ72 → σ78 = (mk σ72 14 202 202) → f79 = up1 f67 q81 (fun _ => 0) → g80 = up1 g68 q81 (fun _ => 0) → (∀ (σ84 : St), σ84 = (wR σ78 a 15 (some q81)) → (∀ (q93 : Nat) (σ90 : St) (f91 : FI) (g92 : FL), q93 = nx σ84 → σ90 = (mk σ84 14 202 202) → f91 = up1 f79 q93 (fun _ => 0) → g92 = up1 g80 q93 (fun _ => 0) → (∀ (σ96 : St), σ96 = (wR σ90 a 16 (some q93)) → (∀ (q105 : Nat) (σ102 : St) (f103 : FI) (g104 : FL), q105 = nx σ96 → σ102 = (mk σ96 15 114688 114688) → f103 = up1 f91 q105 (fun _ => 0) → g104 = up1 g92 q105 (fun _ => 0) → (∀ (σ108 : St), σ108 = (wR σ102 a 19 (some q105)) → (∀ (q117 : Nat) (σ114 : St) (f115 : FI) (g116 : FL), q117 = nx σ108 → σ114 = (mk σ108 15 49152 49152) → f115 = up1 f103 q117 (fun _ => 0) → g116 = up1 g104 q117 (fun _ => 0) → (∀ (σ120 : St), σ120 = (wR σ114 a 20 (some q117)) → (∀ (q129 : Nat) (σ126 : St) (f127 : FI) (g128 : FL), q129 = nx σ120 → σ126 = (mk σ120 15 8 8) → f127 = up1 f115 q129 (fun _ => 0) → g128 = up1 g116 q129 (fun _ => 0) → (∀ (σ132 : St), σ132 = (wR σ126 a 21 (some q129)) → (∀ (q141 : Nat) (σ138 : St) (f139 : FI) (g140 : FL), q141 = nx σ132 → σ138 = (mk σ132 14 300 300) → f139 = up1 f127 q141 (fun _ => 0) → g140 = up1 g128 q141 (fun _ => 0) → (∀ (σ144 : St), σ144 = (wR σ138 a 22 (some q141)) → (∀ (q153 : Nat) (σ150 : St) (f151 : FI) (g152 : FL), q153 = nx σ144 → σ150 = (mk σ144 14 4 4) → f151 = up1 f139 q153 (fun _ => 0) → g152 = up1 g140 q153 (fun _ => 0) → (∀ (σ156 : St), σ156 = (wR σ150 a 23 (some q153)) → (∀ (q165 : Nat) (σ162 : St) (f163 : FI) (g164 : FL), q165 = nx σ156 → σ162 = (mk σ156 14 4 4) → f163 = up1 f151 q165 (fun _ => 0) → g164 = up1 g152 q165 (fun _ => 0) → (∀ (σ168 : St), σ168 = (wR σ162 a 24 (some q165)) → (∀ (q177 : Nat) (σ174 : St) (f175 : FI) (g176 : FL), q177 = nx σ168 → σ174 = (mk σ168 14 4 4) → f175 = up1 f163 q177 (fun _ => 0) → g176 = up1 g164 q177 (fun _ => 0) → (∀ (σ180 : St), σ180 = (wR σ174 a 25 (some q177)) → (∀ (q189 : Nat) (σ186 : St) (f187 : FI) (g188 : FL), q189 = nx σ180 → σ186 = (mk σ180 14 4 4) → f187 = up1 f175 q189 (fun _ => 0) → g188 = up1 g176 q189 (fun _ => 0) → (∀ (σ192 : St), σ192 = (wR σ186 a 26 (some q189)) → (∀ (q201 : Nat) (σ198 : St) (f199 : FI) (g200 : FL), q201 = nx σ192 → σ198 = (mk σ192 14 4 4) → f199 = up1 f187 q201 (fun _ => 0) → g200 = up1 g188 q201 (fun _ => 0) → (∀ (σ204 : St), σ204 = (wR σ198 a 27 (some q201)) → (∀ (q213 : Nat) (σ210 : St) (f211 : FI) (g212 : FL), q213 = nx σ204 → σ210 = (mk σ204 14 192 192) → f211 = up1 f199 q213 (fun _ => 0) → g212 = up1 g200 q213 (fun _ => 0) → (∀ (σ216 : St), σ216 = (wR σ210 a 28 (some q213)) → (∀ (q225 : Nat) (σ222 : St) (f223 : FI) (g224 : FL), q225 = nx σ216 → σ222 = (mk σ216 14 192 192) → f223 = up1 f211 q225 (fun _ => 0) → g224 = up1 g212 q225 (fun _ => 0) → (∀ (σ228 : St), σ228 = (wR σ222 a 29 (some q225)) → (∀ (q237 : Nat) (σ234 : St) (f235 : FI) (g236 : FL), q237 = nx σ228 → σ234 = (mk σ228 14 192 192) → f235 = up1 f223 q237 (fun _ => 0) → g236 = up1 g224 q237 (fun _ => 0) → (∀ (σ240 : St), σ240 = (wR σ234 a 30 (some q237)) → (∀ (q249 : Nat) (σ246 : St) (f247 : FI) (g248 : FL), q249 = nx σ240 → σ246 = (mk σ240 14 16 16) → f247 = up1 f235 q249 (fun _ => 0) → g248 = up1 g236 q249 (fun _ => 0) → (∀ (σ252 : St), σ252 = (wR σ246 a 31 (some q249)) → (∀ (q261 : Nat) (σ258 : St) (f259 : FI) (g260 : FL), q261 = nx σ252 → σ258 = (mk σ252 16 64 64) → f259 = up1 f247 q261 (fun _ => 0) → g260 = up1 g248 q261 (fun _ => 0) → (∀ (σ264 : St), σ264 = (wR σ258 a 32 (some q261)) → (∀ (q273 : Nat) (σ270 : St) (f271 : FI) (g272 : FL), q273 = nx σ264 → σ270 = (mk σ264 14 513 513) → f271 = up1 f259 q273 (fun _ => 0) → g272 = up1 g260 q273 (fun _ => 0) → (∀ (σ276 : St), σ276 = (wR σ270 a 35 (some q273)) → (∀ (q285 : Nat) (σ282 : St) (f283 : FI) (g284 : FL), q285 = nx σ276 → σ282 = (mk σ276 14 512 512) → f283 = up1 f271 q285 (fun _ => 0) → g284 = up1 g272 q285 (fun _ => 0) → (∀ (σ288 : St), σ288 = (wR σ282 a 36 (some q285)) → (∀ (q297 : Nat) (σ294 : St) (f295 : FI) (g296 : FL), q297 = nx σ288 → σ294 = (mk σ288 15 512 512) → f295 = up1 f283 q297 (fun _ => 0) → g296 = up1 g284 q297 (fun _ => 0) → (∀ (σ300 : St), σ300 = (wR σ294 a 42 (some q297)) → (∀ (q309 : Nat) (σ306 : St) (f307 : FI) (g308 : FL), q309 = nx σ300 → σ306 = (mk σ300 14 512 512) → f307 = up1 f295 q309 (fun _ => 0) → g308 = up1 g296 q309 (fun _ => 0) → (∀ (σ312 : St), σ312 = (wR σ306 a 43 (some q309)) → (∀ (q321 : Nat) (σ318 : St) (f319 : FI) (g320 : FL), q321 = nx σ312 → σ318 = (mk σ312 14 512 512) → f319 = up1 f307 q321 (fun _ => 0) → g320 = up1 g308 q321 (fun _ => 0) → (∀ (σ324 : St), σ324 = (wR σ318 a 44 (some q321)) → (∀ (q333 : Nat) (σ330 : St) (f331 : FI) (g332 : FL), q333 = nx σ324 → σ330 = (mk σ324 14 513 513) → f331 = up1 f319 q333 (fun _ => 0) → g332 = up1 g320 q333 (fun _ => 0) → (∀ (σ336 : St), σ336 = (wR σ330 a 45 (some q333)) → (∀ (q345 : Nat) (σ342 : St) (f343 : FI) (g344 : FL), q345 = nx σ336 → σ342 = (mk σ336 14 64 64) → f343 = up1 f331 q345 (fun _ => 0) → g344 = up1 g332 q345 (fun _ => 0) → (∀ (σ348 : St), σ348 = (wR σ342 a 46 (some q345)) → (∀ (q357 : Nat) (σ354 : St) (f355 : FI) (g356 : FL), q357 = nx σ348 → σ354 = (mk σ348 14 64 64) → f355 = up1 f343 q357 (fun _ => 0) → g356 = up1 g344 q357 (fun _ => 0) → (∀ (σ360 : St), σ360 = (wR σ354 a 47 (some q357)) → (∀ (q369 : Nat) (σ366 : St) (f367 : FI) (g368 : FL), q369 = nx σ360 → σ366 = (mk σ360 16 256 256) → f367 = up1 f355 q369 (fun _ => 0) → g368 = up1 g356 q369 (fun _ => 0) → (∀ (σ372 : St), σ372 = (wR σ366 a 48 (some q369)) → (∀ (q381 : Nat) (σ378 : St) (f379 : FI) (g380 : FL), q381 = nx σ372 → σ378 = (mk σ372 16 256 256) → f379 = up1 f367 q381 (fun _ => 0) → g380 = up1 g368 q381 (fun _ => 0) → (∀ (σ384 : St), σ384 = (wR σ378 a 49 (some q381)) → (∀ (q393 : Nat) (σ390 : St) (f391 : FI) (g392 : FL), q393 = nx σ384 → σ390 = (mk σ384 14 8 8) → f391 = up1 f379 q393 (fun _ => 0) → g392 = up1 g380 q393 (fun _ => 0) → (∀ (σ396 : St), σ396 = (wR σ390 a 50 (some q393)) → (∀ (q405 : Nat) (σ402 : St) (f403 : FI) (g404 : FL), q405 = nx σ396 → σ402 = (mk σ396 14 2 2) → f403 = up1 f391 q405 (fun _ => 0) → g404 = up1 g392 q405 (fun _ => 0) → (∀ (σ408 : St), σ408 = (wR σ402 a 52 (some q405)) → (∀ (q417 : Nat) (σ414 : St) (f415 : FI) (g416 : FL), q417 = nx σ408 → σ414 = (mk σ408 14 64 64) → f415 = up1 f403 q417 (fun _ => 0) → g416 = up1 g404 q417 (fun _ => 0) → (∀ (σ420 : St), σ420 = (wR σ414 a 53 (some q417)) → (∀ (q429 : Nat) (σ426 : St) (f427 : FI) (g428 : FL), q429 = nx σ420 → σ426 = (mk σ420 14 96 96) → f427 = up1 f415 q429 (fun _ => 0) → g428 = up1 g416 q429 (fun _ => 0) → (∀ (σ432 : St), σ432 = (wR σ426 a 55 (some q429)) → (∀ (q441 : Nat) (σ438 : St) (f439 : FI) (g440 : FL), q441 = nx σ432 → σ438 = (mk σ432 14 12 12) → f439 = up1 f427 q441 (fun _ => 0) → g440 = up1 g428 q441 (fun _ => 0) → (∀ (σ444 : St), σ444 = (wR σ438 a 56 (some q441)) → (∀ (q453 : Nat) (σ450 : St) (f451 : FI) (g452 : FL), q453 = nx σ444 → σ450 = (mk σ444 14 8 8) → f451 = up1 f439 q453 (fun _ => 0) → g452 = up1 g440 q453 (fun _ => 0) → (∀ (σ456 : St), σ456 = (wR σ450 a 57 (some q453)) → (∀ (q465 : Nat) (σ462 : St) (f463 : FI) (g464 : FL), q465 = nx σ456 → σ462 = (mk σ456 14 64 64) → f463 = up1 f451 q465 (fun _ => 0) → g464 = up1 g452 q465 (fun _ => 0) → (∀ (σ468 : St), σ468 = (wR σ462 a 58 (some q465)) → (∀ (q477 : Nat) (σ474 : St) (f475 : FI) (g476 : FL), q477 = nx σ468 → σ474 = (mk σ468 14 64 64) → f475 = up1 f463 q477 (fun _ => 0) → g476 = up1 g464 q477 (fun _ => 0) → (∀ (σ480 : St), σ480 = (wR σ474 a 59 (some q477)) → (∀ (q489 : Nat) (σ486 : St) (f487 : FI) (g488 : FL), q489 = nx σ480 → σ486 = (mk σ480 14 600 600) → f487 = up1 f475 q489 (fun _ => 0) → g488 = up1 g476 q489 (fun _ => 0) → (∀ (σ492 : St), σ492 = (wR σ486 a 60 (some q489)) → (∀ (q501 : Nat) (σ498 : St) (f499 : FI) (g500 : FL), q501 = nx σ492 → σ498 = (mk σ492 14 600 600) → f499 = up1 f487 q501 (fun _ => 0) → g500 = up1 g488 q501 (fun _ => 0) → (∀ (σ504 : St), σ504 = (wR σ498 a 61 (some q501)) → (∀ (q513 : Nat) (σ510 : St) (f511 : FI) (g512 : FL), q513 = nx σ504 → σ510 = (mk σ504 14 600 600) → f511 = up1 f499 q513 (fun _ => 0) → g512 = up1 g500 q513 (fun _ => 0) → (∀ (σ516 : St), σ516 = (wR σ510 a 62 (some q513)) → (∀ (q525 : Nat) (σ522 : St) (f523 : FI) (g524 : FL), q525 = nx σ516 → σ522 = (mk σ516 14 300 300) → f523 = up1 f511 q525 (fun _ => 0) → g524 = up1 g512 q525 (fun _ => 0) → (∀ (σ528 : St), σ528 = (wR σ522 a 63 (some q525)) → (∀ (q537 : Nat) (σ534 : St) (f535 : FI) (g536 : FL), q537 = nx σ528 → σ534 = (mk σ528 13 800 800) → f535 = up1 f523 q537 (fun _ => 0) → g536 = up1 g524 q537 (fun _ => 0) → (∀ (σ540 : St), σ540 = (wR σ534 a 65 (some q537)) → (∀ (q549 : Nat) (σ546 : St) (f547 : FI) (g548 : FL), q549 = nx σ540 → σ546 = (mk σ540 14 800 800) → f547 = up1 f535 q549 (fun _ => 0) → g548 = up1 g536 q549 (fun _ => 0) → (∀ (σ552 : St), σ552 = (wR σ546 a 66 (some q549)) → (∀ (q561 : Nat) (σ558 : St) (f559 : FI) (g560 : FL), q561 = nx σ552 → σ558 = (mk σ552 14 16 16) → f559 = up1 f547 q561 (fun _ => 0) → g560 = up1 g548 q561 (fun _ => 0) → (∀ (σ564 : St), σ564 = (wR σ558 a 71 (some q561)) → (∀ (q573 : Nat) (σ570 : St) (f571 : FI) (g572 : FL), q573 = nx σ564 → σ570 = (mk σ564 14 16 16) → f571 = up1 f559 q573 (fun _ => 0) → g572 = up1 g560 q573 (fun _ => 0) → (∀ (σ576 : St), σ576 = (wR σ570 a 72 (some q573)) → (∀ (q585 : Nat) (σ582 : St) (f583 : FI) (g584 : FL), q585 = nx σ576 → σ582 = (mk σ576 14 64 64) → f583 = up1 f571 q585 (fun _ => 0) → g584 = up1 g572 q585 (fun _ => 0) → (∀ (σ588 : St), σ588 = (wR σ582 a 73 (some q585)) → (∀ (q597 : Nat) (σ594 : St) (f595 : FI) (g596 : FL), q597 = nx σ588 → σ594 = (mk σ588 14 12 12) → f595 = up1 f583 q597 (fun _ => 0) → g596 = up1 g584 q597 (fun _ => 0) → (∀ (σ600 : St), σ600 = (wR σ594 a 74 (some q597)) → (∀ (q609 : Nat) (σ606 : St) (f607 : FI) (g608 : FL), q609 = nx σ600 → σ606 = (mk σ600 14 12 12) → f607 = up1 f595 q609 (fun _ => 0) → g608 = up1 g596 q609 (fun _ => 0) → (∀ (σ612 : St), σ612 = (wR σ606 a 75 (some q609)) → (∀ (q621 : Nat) (σ618 : St) (f619 : FI) (g620 : FL), q621 = nx σ612 → σ618 = (mk σ612 14 12 12) → f619 = up1 f607 q621 (fun _ => 0) → g620 = up1 g608 q621 (fun _ => 0) → (∀ (σ624 : St), σ624 = (wR σ618 a 76 (some q621)) → (∀ (q633 : Nat) (σ630 : St) (f631 : FI) (g632 : FL), q633 = nx σ624 → σ630 = (mk σ624 14 8 8) → f631 = up1 f619 q633 (fun _ => 0) → g632 = up1 g620 q633 (fun _ => 0) → (∀ (σ636 : St), σ636 = (wR σ630 a 77 (some q633)) → (∀ (q645 : Nat) (σ642 : St) (f643 : FI) (g644 : FL), q645 = nx σ636 → σ642 = (mk σ636 14 8 8) → f643 = up1 f631 q645 (fun _ => 0) → g644 = up1 g632 q645 (fun _ => 0) → (∀ (σ648 : St), σ648 = (wR σ642 a 78 (some q645)) → (A_X12_init_456 σ648 f643 g644 a 0 r)))))))))))))))))))))))))))))))))))))))))))))))))))))))))))))))))))))))))))))))))))))))))))))))))))))))))))))) : Ex mt 0 198 (il σ f g) [vR 12 (some a)] r := Ex.mk mt_198 (show Gx mt 0 cd_X12_init (il σ f g) b_X12_init_0 [some (vR 12 (some a)), none] [] r from (go_loadA rfl (go_oinit rfl (go_loadA rfl (go_pushI rfl (gi_newa ⟨by decide, by decide⟩ (Gx.letM (fun q9 σ6 f7 g8 e2 e3 e4 e5 => have h1 := h q9 σ6 f7 g8 e2 e3 e4 e5; (gi_putR (Gx.letS (fun σ12 e11 => have h10 := h1 σ12 e11; (go_loadA rfl (go_pushI rfl (gi_newa ⟨by decide, by decide⟩ (Gx.letM (fun q21 σ18 f19 g20 e14 e15 e16 e17 => have h13 := h10 q21 σ18 f19 g20 e14 e15 e16 e17; (gi_putR (Gx.letS (fun σ24 e23 => have h22 := h13 σ24 e23; (go_loadA rfl (go_pushI rfl (gi_newa ⟨by decide, by decide⟩ (Gx.letM (fun q33 σ30 f31 g32 e26 e27 e28 e29 => have h25 := h22 q33 σ30 f31 g32 e26 e27 e28 e29; (gi_putR (Gx.letS (fun σ36 e35 => have h34 := h25 σ36 e35; (go_loadA rfl (go_pushI rfl (gi_newa ⟨by decide, by decide⟩ (Gx.letM (fun q45 σ42 f43 g44 e38 e39 e40 e41 => have h37 := h34 q45 σ42 f43 g44 e38 e39 e40 e41; (gi_putR (Gx.letS (fun σ48 e47 => have h46 := h37 σ48 e47; (go_loadA rfl (go_pushI rfl (gi_newa ⟨by decide, by decide⟩ (Gx.letM (fun q57 σ54 f55 g56 e50 e51 e52 e53 => have h49 := h46 q57 σ54 f55 g56 e50 e51 e52 e53; (gi_putR (Gx.letS (fun σ60 e59 => have h58 := h49 σ60 e59; (go_loadA rfl (go_pushI rfl (gi_newa ⟨by decide, by decide⟩ (Gx.letM (fun q69 σ66 f67 g68 e62 e63 e64 e65 => have h61 := h58 q69 σ66 f67 g68 e62 e63 e64 e65; (gi_putR (Gx.letS (fun σ72 e71 => have h70 := h61 σ72 e71; (go_loadA rfl (go_pushI rfl (gi_newa ⟨by decide, by decide⟩ (Gx.letM (fun q81 σ78 f79 g80 e74 e75 e76 e77 => have h73 := h70 q81 σ78 f79 g80 e74 e75 e76 e77; (gi_putR (Gx.letS (fun σ84 e83 => have h82 := h73 σ84 e83; (go_loadA rfl (go_pushI rfl (gi_newa ⟨by decide, by decide⟩ (Gx.letM (fun q93 σ90 f91 g92 e86 e87 e88 e89 => have h85 := h82 q93 σ90 f91 g92 e86 e87 e88 e89; (gi_putR (Gx.letS (fun σ96 e95 => have h94 := h85 σ96 e95; (go_loadA rfl (go_pushI rfl (gi_newa ⟨by decide, by decide⟩ (Gx.letM (fun q105 σ102 f103 g104 e98 e99 e100 e101 => have h97 := h94 q105 σ102 f103 g104 e98 e99 e100 e101; (gi_putR (Gx.letS (fun σ108 e107 => have h106 := h97 σ108 e107; (go_loadA rfl (go_pushI rfl (gi_newa ⟨by decide, by decide⟩ (Gx.letM (fun q117 σ114 f115 g116 e110 e111 e112 e113 => have h109 := h106 q117 σ114 f115 g116 e110 e111 e112 e113; (gi_putR (Gx.letS (fun σ120 e119 => have h118 := h109 σ120 e119; (go_loadA rfl (go_pushI rfl (gi_newa ⟨by decide, by decide⟩ (Gx.letM (fun q129 σ126 f127 g128 e122 e123 e124 e125 => have h121 := h118 q129 σ126 f127 g128 e122 e123 e124 e125; (gi_putR (Gx.letS (fun σ132 e131 => have h130 := h121 σ132 e131; (go_loadA rfl (go_pushI rfl (gi_newa ⟨by decide, by decide⟩ (Gx.letM (fun q141 σ138 f139 g140 e134 e135 e136 e137 => have h133 := h130 q141 σ138 f139 g140 e134 e135 e136 e137; (gi_putR (Gx.letS (fun σ144 e143 => have h142 := h133 σ144 e143; (go_loadA rfl (go_pushI rfl (gi_newa ⟨by decide, by decide⟩ (Gx.letM (fun q153 σ150 f151 g152 e146 e147 e148 e149 => have h145 := h142 q153 σ150 f151 g152 e146 e147 e148 e149; (gi_putR (Gx.letS (fun σ156 e155 => have h154 := h145 σ156 e155; (go_loadA rfl (go_pushI rfl (gi_newa ⟨by decide, by decide⟩ (Gx.letM (fun q165 σ162 f163 g164 e158 e159 e160 e161 => have h157 := h154 q165 σ162 f163 g164 e158 e159 e160 e161; (gi_putR (Gx.letS (fun σ168 e167 => have h166 := h157 σ168 e167; (go_loadA rfl (go_pushI rfl (gi_newa ⟨by decide, by decide⟩ (Gx.letM (fun q177 σ174 f175 g176 e170 e171 e172 e173 => have h169 := h166 q177 σ174 f175 g176 e170 e171 e172 e173; (gi_putR (Gx.letS (fun σ180 e179 => have h178 := h169 σ180 e179; (go_loadA rfl (go_pushI rfl (gi_newa ⟨by decide, by decide⟩ (Gx.letM (fun q189 σ186 f187 g188 e182 e183 e184 e185 => have h181 := h178 q189 σ186 f187 g188 e182 e183 e184 e185; (gi_putR (Gx.letS (fun σ192 e191 => have h190 := h181 σ192 e191; (go_loadA rfl (go_pushI rfl (gi_newa ⟨by decide, by decide⟩ (Gx.letM (fun q201 σ198 f199 g200 e194 e195 e196 e197 => have h193 := h190 q201 σ198 f199 g200 e194 e195 e196 e197; (gi_putR (Gx.letS (fun σ204 e203 => have h202 := h193 σ204 e203; (go_loadA rfl (go_pushI rfl (gi_newa ⟨by decide, by decide⟩ (Gx.letM (fun q213 σ210 f211 g212 e206 e207 e208 e209 => have h205 := h202 q213 σ210 f211 g212 e206 e207 e208 e209; (gi_putR (Gx.letS (fun σ216 e215 => have h214 := h205 σ216 e215; (go_loadA rfl (go_pushI rfl (gi_newa ⟨by decide, by decide⟩ (Gx.letM (fun q225 σ222 f223 g224 e218 e219 e220 e221 => have h217 := h214 q225 σ222 f223 g224 e218 e219 e220 e221; (gi_putR (Gx.letS (fun σ228 e227 => have h226 := h217 σ228 e227; (go_loadA rfl (go_pushI rfl (gi_newa ⟨by decide, by decide⟩ (Gx.letM (fun q237 σ234 f235 g236 e230 e231 e232 e233 => have h229 := h226 q237 σ234 f235 g236 e230 e231 e232 e233; (gi_putR (Gx.letS (fun σ240 e239 => have h238 := h229 σ240 e239; (go_loadA rfl (go_pushI rfl (gi_newa ⟨by decide, by decide⟩ (Gx.letM (fun q249 σ246 f247 g248 e242 e243 e244 e245 => have h241 := h238 q249 σ246 f247 g248 e242 e243 e244 e245; (gi_putR (Gx.letS (fun σ252 e251 => have h250 := h241 σ252 e251; (go_loadA rfl (go_pushI rfl (gi_newa ⟨by decide, by decide⟩ (Gx.letM (fun q261 σ258 f259 g260 e254 e255 e256 e257 => have h253 := h250 q261 σ258 f259 g260 e254 e255 e256 e257; (gi_putR (Gx.letS (fun σ264 e263 => have h262 := h253 σ264 e263; (go_loadA rfl (go_pushI rfl (gi_newa ⟨by decide, by decide⟩ (Gx.letM (fun q273 σ270 f271 g272 e266 e267 e268 e269 => have h265 := h262 q273 σ270 f271 g272 e266 e267 e268 e269; (gi_putR (Gx.letS (fun σ276 e275 => have h274 := h265 σ276 e275; (go_loadA rfl (go_pushI rfl (gi_newa ⟨by decide, by decide⟩ (Gx.letM (fun q285 σ282 f283 g284 e278 e279 e280 e281 => have h277 := h274 q285 σ282 f283 g284 e278 e279 e280 e281; (gi_putR (Gx.letS (fun σ288 e287 => have h286 := h277 σ288 e287; (go_loadA rfl (go_pushI rfl (gi_newa ⟨by decide, by decide⟩ (Gx.letM (fun q297 σ294 f295 g296 e290 e291 e292 e293 => have h289 := h286 q297 σ294 f295 g296 e290 e291 e292 e293; (gi_putR (Gx.letS (fun σ300 e299 => have h298 := h289 σ300 e299; (go_loadA rfl (go_pushI rfl (gi_newa ⟨by decide, by decide⟩ (Gx.letM (fun q309 σ306 f307 g308 e302 e303 e304 e305 => have h301 := h298 q309 σ306 f307 g308 e302 e303 e304 e305; (gi_putR (Gx.letS (fun σ312 e311 => have h310 := h301 σ312 e311; (go_loadA rfl (go_pushI rfl (gi_newa ⟨by decide, by decide⟩ (Gx.letM (fun q321 σ318 f319 g320 e314 e315 e316 e317 => have h313 := h310 q321 σ318 f319 g320 e314 e315 e316 e317; (gi_putR (Gx.letS (fun σ324 e323 => have h322 := h313 σ324 e323; (go_loadA rfl (go_pushI rfl (gi_newa ⟨by decide, by decide⟩ (Gx.letM (fun q333 σ330 f331 g332 e326 e327 e328 e329 => have h325 := h322 q333 σ330 f331 g332 e326 e327 e328 e329; (gi_putR (Gx.letS (fun σ336 e335 => have h334 := h325 σ336 e335; (go_loadA rfl (go_pushI rfl (gi_newa ⟨by decide, by decide⟩ (Gx.letM (fun q345 σ342 f343 g344 e338 e339 e340 e341 => have h337 := h334 q345 σ342 f343 g344 e338 e339 e340 e341; (gi_putR (Gx.letS (fun σ348 e347 => have h346 := h337 σ348 e347; (go_loadA rfl (go_pushI rfl (gi_newa ⟨by decide, by decide⟩ (Gx.letM (fun q357 σ354 f355 g356 e350 e351 e352 e353 => have h349 := h346 q357 σ354 f355 g356 e350 e351 e352 e353; (gi_putR (Gx.letS (fun σ360 e359 => have h358 := h349 σ360 e359; (go_loadA rfl (go_pushI rfl (gi_newa ⟨by decide, by decide⟩ (Gx.letM (fun q369 σ366 f367 g368 e362 e363 e364 e365 => have h361 := h358 q369 σ366 f367 g368 e362 e363 e364 e365; (gi_putR (Gx.letS (fun σ372 e371 => have h370 := h361 σ372 e371; (go_loadA rfl (go_pushI rfl (gi_newa ⟨by decide, by decide⟩ (Gx.letM (fun q381 σ378 f379 g380 e374 e375 e376 e377 => have h373 := h370 q381 σ378 f379 g380 e374 e375 e376 e377; (gi_putR (Gx.letS (fun σ384 e383 => have h382 := h373 σ384 e383; (go_loadA rfl (go_pushI rfl (gi_newa ⟨by decide, by decide⟩ (Gx.letM (fun q393 σ390 f391 g392 e386 e387 e388 e389 => have h385 := h382 q393 σ390 f391 g392 e386 e387 e388 e389; (gi_putR (Gx.letS (fun σ396 e395 => have h394 := h385 σ396 e395; (go_loadA rfl (go_pushI rfl (gi_newa ⟨by decide, by decide⟩ (Gx.letM (fun q405 σ402 f403 g404 e398 e399 e400 e401 => have h397 := h394 q405 σ402 f403 g404 e398 e399 e400 e401; (gi_putR (Gx.letS (fun σ408 e407 => have h406 := h397 σ408 e407; (go_loadA rfl (go_pushI rfl (gi_newa ⟨by decide, by decide⟩ (Gx.letM (fun q417 σ414 f415 g416 e410 e411 e412 e413 => have h409 := h406 q417 σ414 f415 g416 e410 e411 e412 e413; (gi_putR (Gx.letS (fun σ420 e419 => have h418 := h409 σ420 e419; (go_loadA rfl (go_pushI rfl (gi_newa ⟨by decide, by decide⟩ (Gx.letM (fun q429 σ426 f427 g428 e422 e423 e424 e425 => have h421 := h418 q429 σ426 f427 g428 e422 e423 e424 e425; (gi_putR (Gx.letS (fun σ432 e431 => have h430 := h421 σ432 e431; (go_loadA rfl (go_pushI rfl (gi_newa ⟨by decide, by decide⟩ (Gx.letM (fun q441 σ438 f439 g440 e434 e435 e436 e437 => have h433 := h430 q441 σ438 f439 g440 e434 e435 e436 e437; (gi_putR (Gx.letS (fun σ444 e443 => have h442 := h433 σ444 e443; (go_loadA rfl (go_pushI rfl (gi_newa ⟨by decide, by decide⟩ (Gx.letM (fun q453 σ450 f451 g452 e446 e447 e448 e449 => have h445 := h442 q453 σ450 f451 g452 e446 e447 e448 e449; (gi_putR (Gx.letS (fun σ456 e455 => have h454 := h445 σ456 e455; (go_loadA rfl (go_pushI rfl (gi_newa ⟨by decide, by decide⟩ (Gx.letM (fun q465 σ462 f463 g464 e458 e459 e460 e461 => have h457 := h454 q465 σ462 f463 g464 e458 e459 e460 e461; (gi_putR (Gx.letS (fun σ468 e467 => have h466 := h457 σ468 e467; (go_loadA rfl (go_pushI rfl (gi_newa ⟨by decide, by decide⟩ (Gx.letM (fun q477 σ474 f475 g476 e470 e471 e472 e473 => have h469 := h466 q477 σ474 f475 g476 e470 e471 e472 e473; (gi_putR (Gx.letS (fun σ480 e479 => have h478 := h469 σ480 e479; (go_loadA rfl (go_pushI rfl (gi_newa ⟨by decide, by decide⟩ (Gx.letM (fun q489 σ486 f487 g488 e482 e483 e484 e485 => have h481 := h478 q489 σ486 f487 g488 e482 e483 e484 e485; (gi_putR (Gx.letS (fun σ492 e491 => have h490 := h481 σ492 e491; (go_loadA rfl (go_pushI rfl (gi_newa ⟨by decide, by decide⟩ (Gx.letM (fun q501 σ498 f499 g500 e494 e495 e496 e497 => have h493 := h490 q501 σ498 f499 g500 e494 e495 e496 e497; (gi_putR (Gx.letS (fun σ504 e503 => have h502 := h493 σ504 e503; (go_loadA rfl (go_pushI rfl (gi_newa ⟨by decide, by decide⟩ (Gx.letM (fun q513 σ510 f511 g512 e506 e507 e508 e509 => have h505 := h502 q513 σ510 f511 g512 e506 e507 e508 e509; (gi_putR (Gx.letS (fun σ516 e515 => have h514 := h505 σ516 e515; (go_loadA rfl (go_pushI rfl (gi_newa ⟨by decide, by decide⟩ (Gx.letM (fun q525 σ522 f523 g524 e518 e519 e520 e521 => have h517 := h514 q525 σ522 f523 g524 e518 e519 e520 e521; (gi_putR (Gx.letS (fun σ528 e527 => have h526 := h517 σ528 e527; (go_loadA rfl (go_pushI rfl (gi_newa ⟨by decide, by decide⟩ (Gx.letM (fun q537 σ534 f535 g536 e530 e531 e532 e533 => have h529 := h526 q537 σ534 f535 g536 e530 e531 e532 e533; (gi_putR (Gx.letS (fun σ540 e539 => have h538 := h529 σ540 e539; (go_loadA rfl (go_pushI rfl (gi_newa ⟨by decide, by decide⟩ (Gx.letM (fun q549 σ546 f547 g548 e542 e543 e544 e545 => have h541 := h538 q549 σ546 f547 g548 e542 e543 e544 e545; (gi_putR (Gx.letS (fun σ552 e551 => have h550 := h541 σ552 e551; (go_loadA rfl (go_pushI rfl (gi_newa ⟨by decide, by decide⟩ (Gx.letM (fun q561 σ558 f559 g560 e554 e555 e556 e557 => have h553 := h550 q561 σ558 f559 g560 e554 e555 e556 e557; (gi_putR (Gx.letS (fun σ564 e563 => have h562 := h553 σ564 e563; (go_loadA rfl (go_pushI rfl (gi_newa ⟨by decide, by decide⟩ (Gx.letM (fun q573 σ570 f571 g572 e566 e567 e568 e569 => have h565 := h562 q573 σ570 f571 g572 e566 e567 e568 e569; (gi_putR (Gx.letS (fun σ576 e575 => have h574 := h565 σ576 e575; (go_loadA rfl (go_pushI rfl (gi_newa ⟨by decide, by decide⟩ (Gx.letM (fun q585 σ582 f583 g584 e578 e579 e580 e581 => have h577 := h574 q585 σ582 f583 g584 e578 e579 e580 e581; (gi_putR (Gx.letS (fun σ588 e587 => have h586 := h577 σ588 e587; (go_loadA rfl (go_pushI rfl (gi_newa ⟨by decide, by decide⟩ (Gx.letM (fun q597 σ594 f595 g596 e590 e591 e592 e593 => have h589 := h586 q597 σ594 f595 g596 e590 e591 e592 e593; (gi_putR (Gx.letS (fun σ600 e599 => have h598 := h589 σ600 e599; (go_loadA rfl (go_pushI rfl (gi_newa ⟨by decide, by decide⟩ (Gx.letM (fun q609 σ606 f607 g608 e602 e603 e604 e605 => have h601 := h598 q609 σ606 f607 g608 e602 e603 e604 e605; (gi_putR (Gx.letS (fun σ612 e611 => have h610 := h601 σ612 e611; (go_loadA rfl (go_pushI rfl (gi_newa ⟨by decide, by decide⟩ (Gx.letM (fun q621 σ618 f619 g620 e614 e615 e616 e617 => have h613 := h610 q621 σ618 f619 g620 e614 e615 e616 e617; (gi_putR (Gx.letS (fun σ624 e623 => have h622 := h613 σ624 e623; (go_loadA rfl (go_pushI rfl (gi_newa ⟨by decide, by decide⟩ (Gx.letM (fun q633 σ630 f631 g632 e626 e627 e628 e629 => have h625 := h622 q633 σ630 f631 g632 e626 e627 e628 e629; (gi_putR (Gx.letS (fun σ636 e635 => have h634 := h625 σ636 e635; (go_loadA rfl (go_pushI rfl (gi_newa ⟨by decide, by decide⟩ (Gx.letM (fun q645 σ642 f643 g644 e638 e639 e640 e641 => have h637 := h634 q645 σ642 f643 g644 e638 e639 e640 e641; (gi_putR (Gx.letS (fun σ648 e647 => have h646 := h637 σ648 e647; (go_pushI rfl (go_stoI rfl rfl (go_fall (h646)))))))))))))))))))))))))))))))))))))))))))))))))))))))))))))))))))))))))))))))))))))))))))))))))))))))))))))))))))))))))))))))))))))))))))))))))))))))))))))))))))))))))))))))))))))))))))))))))))))))))))))))))))))))))))))))))))))))))))))))))))))))))))))))))))))))))))))))))))))))))))))))))))))))))))))))))))))))))))))))))))))))))))))))))))))))))))))))))))))))))))))))))))))))))))))))))))))))))))))))))))))))))))))))))))))))))))))))))))))))
theorem bk_X12_init_456 {σ : St} {f : FI} {g : FL} {a : Nat} {x1 : Int} {r : St × List Vl}  (h : ((4 ≤ x1 → (A_X12_init_502 σ f g a 0 r)) ∧ (¬ 4 ≤ x1 → (∃ q4, gR σ a 23 = some q4 ∧ ((0 ≤ x1 ∧ x1 < (ln σ q4 : Int))) ∧ (∃ q6, gR σ a 24 = some q6 ∧ ((0 ≤ x1 ∧ x1 < (ln σ q6 : Int))) ∧ (∃ q8, gR σ a 25 = some q8 ∧ ((0 ≤ x1 ∧ x1 < (ln σ q8 : Int))) ∧ (∃ q10, gR σ a 26 = some q10 ∧ ((0 ≤ x1 ∧ x1 < (ln σ q10 : Int)) ∧ (-2147483648 ≤ (x1 + 1) ∧ (x1 + 1) ≤ 2147483647)) ∧ (A_X12_init_456 σ (up2 (up2 (up2 (up2 f q4 ((x1).toNat) 255) q6 ((x1).toNat) 15) q8 ((x1).toNat) 15) q10 ((x1).toNat) 15) g a (x1 + 1) r)))))))) : A_X12_init_456 σ f g a x1 r := (show Gx mt 0 cd_X12_init (il σ f g) b_X12_init_456 [some (vR 12 (some a)), some (vI x1)] [] r from (go_loadI rfl (go_pushI rfl (gq_icmp_ge (fun e3 => have h1 := h.1 e3; (go_pushI rfl (go_stoI rfl rfl (go_fall (h1))))) (fun e3 => have h2 := h.2 e3; (go_loadA rfl (Exists.elim h2 fun q4 h5 => (gi_getR h5.1 (go_loadI rfl (go_pushI rfl (gi_iast h5.2.1 (go_loadA rfl (Exists.elim h5.2.2 fun q6 h7 => (gi_getR h7.1 (go_loadI rfl (go_pushI rfl (gi_iast h7.2.1 (go_loadA rfl (Exists.elim h7.2.2 fun q8 h9 => (gi_getR h9.1 (go_loadI rfl (go_pushI rfl (gi_iast h9.2.1 (go_loadA rfl (Exists.elim h9.2.2 fun q10 h11 => (gi_getR h11.1 (go_loadI rfl (go_pushI rfl (gi_iast h11.2.1.1 (go_iinc rfl h11.2.1.2 rfl (go_goto (h11.2.2))))))))))))))))))))))))))))))))
theorem bk_X12_init_502 {σ : St} {f : FI} {g : FL} {a : Nat} {x1 : Int} {r : St × List Vl}  (h : ((8 ≤ x1 → (r = ((il σ (up2 (up2 (up2 (up2 f a 33 255) a 51 (-1)) a 54 (-1)) a 37 (-1)) g), []))) ∧ (¬ 8 ≤ x1 → (∃ q4, gR σ a 77 = some q4 ∧ ((0 ≤ x1 ∧ x1 < (ln σ q4 : Int)) ∧ (-2147483648 ≤ (x1 + 1) ∧ (x1 + 1) ≤ 2147483647)) ∧ (A_X12_init_502 σ (up2 f q4 ((x1).toNat) (-1)) g a (x1 + 1) r))))) : A_X12_init_502 σ f g a x1 r := (show Gx mt 0 cd_X12_init (il σ f g) b_X12_init_502 [some (vR 12 (some a)), some (vI x1)] [] r from (go_loadI rfl (go_pushI rfl (gq_icmp_ge (fun e3 => have h1 := h.1 e3; (go_loadA rfl (go_pushI rfl (gi_putI (go_loadA rfl (go_pushI rfl (gi_putI (go_loadA rfl (go_pushI rfl (gi_putI (go_loadA rfl (go_pushI rfl (gi_putI (h1 ▸ gq_retV)))))))))))))) (fun e3 => have h2 := h.2 e3; (go_loadA rfl (Exists.elim h2 fun q4 h5 => (gi_getR h5.1 (go_loadI rfl (go_pushI rfl (gi_iast h5.2.1.1 (go_iinc rfl h5.2.1.2 rfl (go_goto (h5.2.2))))))))))))))
/-- what the model's constructor does to its rows -/
def MI (d : Nat) (f f' : FI) : Prop := (∀ k, f' d k = if k = 33 then 255 else if k = 51 ∨ k = 54 ∨ k = 37 then -1 else f d k) ∧ (∀ h, h < 4 → f' (d + 13) h = 255 ∧ f' (d + 14) h = 15 ∧ f' (d + 15) h = 15 ∧ f' (d + 16) h = 15) ∧ (∀ b, b < 8 → f' (d + 53) b = -1) ∧ ∀ c, c ≠ d → ¬ (d + 13 ≤ c ∧ c ≤ d + 16) → c ≠ d + 53 → f' c = f c
theorem x_rows12 {σ : St} {f : FI} {g : FL} {d : Nat} (hs : Sh12 σ d) : ∃ f' : FI, A_X12_init_456 σ f g d 0 (il σ f' g, []) ∧ MI d f f' := by
  have l2 : ∀ u i : Nat, i + u = 8 → ∀ fi : FI, ((∀ b, b < i → fi (d + 53) b = -1) ∧ (fi d = f d) ∧ (∀ h, h < 4 → fi (d + 13) h = 255 ∧ fi (d + 14) h = 15 ∧ fi (d + 15) h = 15 ∧ fi (d + 16) h = 15) ∧ ∀ c, c ≠ d → ¬ (d + 13 ≤ c ∧ c ≤ d + 16) → c ≠ d + 53 → fi c = f c) → ∃ f' : FI, A_X12_init_502 σ fi g d (i : Int) (il σ f' g, []) ∧ MI d f f' := by
    intro u
    induction u with
    | zero =>
      intro i hi fi hf
      obtain rfl : i = 8 := hi
      obtain ⟨h1, h2, h3, h4⟩ := hf
      refine ⟨_, bk_X12_init_502 ⟨fun _ => rfl, fun y => absurd (by omega) y⟩, fun k => ?_, fun h hh => ?_, fun b hb => ?_, fun c c1 c2 c3 => ?_⟩
      · by_cases e1 : k = 37
        · rw [e1, u2_s]
          simp
        rw [u2_i e1]
        by_cases e2 : k = 54
        · rw [e2, u2_s]
          simp
        rw [u2_i e2]
        by_cases e3 : k = 51
        · rw [e3, u2_s]
          simp
        rw [u2_i e3]
        by_cases e4 : k = 33
        · rw [e4, u2_s]
          simp
        rw [u2_i e4, if_neg e4, if_neg (by omega), h2]
      · rw [u2_a (by omega), u2_a (by omega), u2_a (by omega), u2_a (by omega), u2_a (by omega), u2_a (by omega), u2_a (by omega), u2_a (by omega), u2_a (by omega), u2_a (by omega), u2_a (by omega), u2_a (by omega), u2_a (by omega), u2_a (by omega), u2_a (by omega), u2_a (by omega)]
        exact h3 h hh
      · rw [u2_a (by omega), u2_a (by omega), u2_a (by omega), u2_a (by omega)]
        exact h1 b hb
      · rw [up2_ne c1, up2_ne c1, up2_ne c1, up2_ne c1]
        exact h4 c c1 c2 c3
    | succ u ih =>
      intro i hi fi hf
      obtain ⟨h1, h2, h3, h4⟩ := hf
      obtain ⟨f', A', R'⟩ := ih (i + 1) (by omega) (up2 fi (d + 53) i (-1)) ⟨fun b hb => by
        by_cases z : b = i
        · rw [z, u2_s]
        · rw [u2_i z]
          exact h1 b (by omega), by rw [up2_ne (by omega)]; exact h2, fun h hh => by
        rw [u2_a (by omega), u2_a (by omega), u2_a (by omega), u2_a (by omega)]
        exact h3 h hh, fun c c1 c2 c3 => by rw [up2_ne c3]; exact h4 c c1 c2 c3⟩
      refine ⟨f', bk_X12_init_502 ⟨fun y => absurd y (by omega), fun _ => ⟨d + 53, hs.r77, ⟨by rw [hs.l77]; omega, by omega⟩, ?_⟩⟩, R'⟩
      rw [show ((i : Int)).toNat = i from rfl, show (i : Int) + 1 = ((i + 1 : Nat) : Int) by omega]
      exact A'
  have l1 : ∀ u i : Nat, i + u = 4 → ∀ fi : FI, (fi d = f d ∧ (∀ h, h < i → fi (d + 13) h = 255 ∧ fi (d + 14) h = 15 ∧ fi (d + 15) h = 15 ∧ fi (d + 16) h = 15) ∧ ∀ c, c ≠ d → ¬ (d + 13 ≤ c ∧ c ≤ d + 16) → fi c = f c) → ∃ f' : FI, A_X12_init_456 σ fi g d (i : Int) (il σ f' g, []) ∧ MI d f f' := by
    intro u
    induction u with
    | zero =>
      intro i hi fi hf
      obtain rfl : i = 4 := hi
      obtain ⟨h2, h3, h4⟩ := hf
      obtain ⟨f', A', R'⟩ := l2 8 0 rfl fi ⟨fun b hb => absurd hb (Nat.not_lt_zero b), h2, h3, fun c c1 c2 _ => h4 c c1 c2⟩
      exact ⟨f', bk_X12_init_456 ⟨fun _ => A', fun y => absurd (by omega) y⟩, R'⟩
    | succ u ih =>
      intro i hi fi hf
      obtain ⟨h2, h3, h4⟩ := hf
      obtain ⟨f', A', R'⟩ := ih (i + 1) (by omega) (up2 (up2 (up2 (up2 fi (d + 13) i 255) (d + 14) i 15) (d + 15) i 15) (d + 16) i 15) ⟨by rw [up2_ne (by omega), up2_ne (by omega), up2_ne (by omega), up2_ne (by omega)]; exact h2, fun h hh => by
        have e13 : ∀ v : Int, up2 (up2 (up2 (up2 fi (d + 13) i 255) (d + 14) i 15) (d + 15) i 15) (d + 16) i v (d + 13) h = up2 fi (d + 13) i 255 (d + 13) h := fun v => by rw [u2_a (by omega), u2_a (by omega), u2_a (by omega)]
        have e14 : ∀ v : Int, up2 (up2 (up2 (up2 fi (d + 13) i 255) (d + 14) i 15) (d + 15) i 15) (d + 16) i v (d + 14) h = up2 (up2 fi (d + 13) i 255) (d + 14) i 15 (d + 14) h := fun v => by rw [u2_a (by omega), u2_a (by omega)]
        have e15 : ∀ v : Int, up2 (up2 (up2 (up2 fi (d + 13) i 255) (d + 14) i 15) (d + 15) i 15) (d + 16) i v (d + 15) h = up2 (up2 (up2 fi (d + 13) i 255) (d + 14) i 15) (d + 15) i 15 (d + 15) h := fun v => by rw [u2_a (by omega)]
        rw [e13, e14, e15]
        by_cases z : h = i
        · rw [z, u2_s, u2_s, u2_s, u2_s]
          exact ⟨rfl, rfl, rfl, rfl⟩
        · obtain ⟨b1, b2, b3, b4⟩ := h3 h (by omega)
          exact ⟨by rw [u2_i z]; exact b1, by rw [u2_i z, u2_a (by omega)]; exact b2, by rw [u2_i z, u2_a (by omega), u2_a (by omega)]; exact b3, by rw [u2_i z, u2_a (by omega), u2_a (by omega), u2_a (by omega)]; exact b4⟩, fun c c1 c2 => by
        rw [up2_ne (by omega), up2_ne (by omega), up2_ne (by omega), up2_ne (by omega)]
        exact h4 c c1 c2⟩
      refine ⟨f', bk_X12_init_456 ⟨fun y => absurd y (by omega), fun _ => ⟨d + 13, hs.r23, by rw [hs.l23]; omega, d + 14, hs.r24, by rw [hs.l24]; omega, d + 15, hs.r25, by rw [hs.l25]; omega, d + 16, hs.r26, ⟨by rw [hs.l26]; omega, by omega⟩, ?_⟩⟩, R'⟩
      rw [show ((i : Int)).toNat = i from rfl, show (i : Int) + 1 = ((i + 1 : Nat) : Int) by omega]
      exact A'
  exact l1 4 0 rfl f ⟨rfl, fun h hh => absurd hh (Nat.not_lt_zero h), fun _ _ _ => rfl⟩
theorem let5 {P : St → FI → FL → Prop} {σ W M : St} {f F : FI} {g G : FL} {q0 t n d k : Nat} (hq : q0 = nx σ) (hm : M = mk σ t n n) (hf : F = up1 f q0 (fun _ => 0)) (hg : G = up1 g q0 (fun _ => 0)) (hw : W = wR M d k (some q0)) (h : P W F G) : ∀ (q : Nat) (m : St) (f' : FI) (g' : FL), q = nx σ → m = mk σ t n n → f' = up1 f q (fun _ => 0) → g' = up1 g q (fun _ => 0) → ∀ w, w = wR m d k (some q) → P w f' g' := by
  intro q m f' g' c1 c2 c3 c4 w c5
  subst c1 c2 c3 c4 c5 hq hm hf hg hw
  exact h
set_option maxHeartbeats 4000000 in
set_option maxRecDepth 100000 in
theorem x_al12 {σ : St} {f : FI} {g : FL} {d : Nat} (hd : nx σ = d + 1) : ∃ (σ' : St) (f' : FI) (g' : FL), Alf σ f g d (d + 1) [(9, 200), (10, 3600), (11, 3600), (12, 3600), (13, 12), (14, 12), (15, 202), (16, 202), (19, 114688), (20, 49152), (21, 8), (22, 300), (23, 4), (24, 4), (25, 4), (26, 4), (27, 4), (28, 192), (29, 192), (30, 192), (31, 16), (32, 64), (35, 513), (36, 512), (42, 512), (43, 512), (44, 512), (45, 513), (46, 64), (47, 64), (48, 256), (49, 256), (50, 8), (52, 2), (53, 64), (55, 96), (56, 12), (57, 8), (58, 64), (59, 64), (60, 600), (61, 600), (62, 600), (63, 300), (65, 800), (66, 800), (71, 16), (72, 16), (73, 64), (74, 12), (75, 12), (76, 12), (77, 8), (78, 8)] σ' f' g' ∧ ∀ r, A_X12_init_456 σ' f' g' d 0 r → Ex mt 0 198 (il σ f g) [vR 12 (some d)] r := by
  have P1A0 := Alf.nil (σ := σ) (f := f) (g := g) (a := d) (b := d + 1) hd
  obtain ⟨q1, hq1⟩ : ∃ x, x = nx σ := ⟨_, rfl⟩
  obtain ⟨m1, hm1⟩ : ∃ x, x = mk σ 13 200 200 := ⟨_, rfl⟩
  obtain ⟨f1, hf1⟩ : ∃ x : FI, x = up1 f q1 (fun _ => 0) := ⟨_, rfl⟩
  obtain ⟨g1, hg1⟩ : ∃ x : FL, x = up1 g q1 (fun _ => 0) := ⟨_, rfl⟩
  obtain ⟨w1, hw1⟩ : ∃ x, x = wR m1 d 9 (some q1) := ⟨_, rfl⟩
  have A1 := (P1A0.add (Nat.lt_succ_self d) (by decide +kernel) hq1 hm1 hf1 hg1 hw1).1
  obtain ⟨q2, hq2⟩ : ∃ x, x = nx w1 := ⟨_, rfl⟩
  obtain ⟨m2, hm2⟩ : ∃ x, x = mk w1 14 3600 3600 := ⟨_, rfl⟩
  obtain ⟨f2, hf2⟩ : ∃ x : FI, x = up1 f1 q2 (fun _ => 0) := ⟨_, rfl⟩
  obtain ⟨g2, hg2⟩ : ∃ x : FL, x = up1 g1 q2 (fun _ => 0) := ⟨_, rfl⟩
  obtain ⟨w2, hw2⟩ : ∃ x, x = wR m2 d 10 (some q2) := ⟨_, rfl⟩
  have A2 := (A1.add (Nat.lt_succ_self d) (by decide +kernel) hq2 hm2 hf2 hg2 hw2).1
  obtain ⟨q3, hq3⟩ : ∃ x, x = nx w2 := ⟨_, rfl⟩
  obtain ⟨m3, hm3⟩ : ∃ x, x = mk w2 14 3600 3600 := ⟨_, rfl⟩
  obtain ⟨f3, hf3⟩ : ∃ x : FI, x = up1 f2 q3 (fun _ => 0) := ⟨_, rfl⟩
  obtain ⟨g3, hg3⟩ : ∃ x : FL, x = up1 g2 q3 (fun _ => 0) := ⟨_, rfl⟩
  obtain ⟨w3, hw3⟩ : ∃ x, x = wR m3 d 11 (some q3) := ⟨_, rfl⟩
  have A3 := (A2.add (Nat.lt_succ_self d) (by decide +kernel) hq3 hm3 hf3 hg3 hw3).1
  obtain ⟨q4, hq4⟩ : ∃ x, x = nx w3 := ⟨_, rfl⟩
  obtain ⟨m4, hm4⟩ : ∃ x, x = mk w3 14 3600 3600 := ⟨_, rfl⟩
  obtain ⟨f4, hf4⟩ : ∃ x : FI, x = up1 f3 q4 (fun _ => 0) := ⟨_, rfl⟩
  obtain ⟨g4, hg4⟩ : ∃ x : FL, x = up1 g3 q4 (fun _ => 0) := ⟨_, rfl⟩
  obtain ⟨w4, hw4⟩ : ∃ x, x = wR m4 d 12 (some q4) := ⟨_, rfl⟩
  have A4 := (A3.add (Nat.lt_succ_self d) (by decide +kernel) hq4 hm4 hf4 hg4 hw4).1
  obtain ⟨q5, hq5⟩ : ∃ x, x = nx w4 := ⟨_, rfl⟩
  obtain ⟨m5, hm5⟩ : ∃ x, x = mk w4 14 12 12 := ⟨_, rfl⟩
  obtain ⟨f5, hf5⟩ : ∃ x : FI, x = up1 f4 q5 (fun _ => 0) := ⟨_, rfl⟩
  obtain ⟨g5, hg5⟩ : ∃ x : FL, x = up1 g4 q5 (fun _ => 0) := ⟨_, rfl⟩
  obtain ⟨w5, hw5⟩ : ∃ x, x = wR m5 d 13 (some q5) := ⟨_, rfl⟩
  have A5 := (A4.add (Nat.lt_succ_self d) (by decide +kernel) hq5 hm5 hf5 hg5 hw5).1
  obtain ⟨q6, hq6⟩ : ∃ x, x = nx w5 := ⟨_, rfl⟩
  obtain ⟨m6, hm6⟩ : ∃ x, x = mk w5 14 12 12 := ⟨_, rfl⟩
  obtain ⟨f6, hf6⟩ : ∃ x : FI, x = up1 f5 q6 (fun _ => 0) := ⟨_, rfl⟩
  obtain ⟨g6, hg6⟩ : ∃ x : FL, x = up1 g5 q6 (fun _ => 0) := ⟨_, rfl⟩
  obtain ⟨w6, hw6⟩ : ∃ x, x = wR m6 d 14 (some q6) := ⟨_, rfl⟩
  have A6 := (A5.add (Nat.lt_succ_self d) (by decide +kernel) hq6 hm6 hf6 hg6 hw6).1
  obtain ⟨q7, hq7⟩ : ∃ x, x = nx w6 := ⟨_, rfl⟩
  obtain ⟨m7, hm7⟩ : ∃ x, x = mk w6 14 202 202 := ⟨_, rfl⟩
  obtain ⟨f7, hf7⟩ : ∃ x : FI, x = up1 f6 q7 (fun _ => 0) := ⟨_, rfl⟩
  obtain ⟨g7, hg7⟩ : ∃ x : FL, x = up1 g6 q7 (fun _ => 0) := ⟨_, rfl⟩
  obtain ⟨w7, hw7⟩ : ∃ x, x = wR m7 d 15 (some q7) := ⟨_, rfl⟩
  have A7 := (A6.add (Nat.lt_succ_self d) (by decide +kernel) hq7 hm7 hf7 hg7 hw7).1
  obtain ⟨q8, hq8⟩ : ∃ x, x = nx w7 := ⟨_, rfl⟩
  obtain ⟨m8, hm8⟩ : ∃ x, x = mk w7 14 202 202 := ⟨_, rfl⟩
  obtain ⟨f8, hf8⟩ : ∃ x : FI, x = up1 f7 q8 (fun _ => 0) := ⟨_, rfl⟩
  obtain ⟨g8, hg8⟩ : ∃ x : FL, x = up1 g7 q8 (fun _ => 0) := ⟨_, rfl⟩
  obtain ⟨w8, hw8⟩ : ∃ x, x = wR m8 d 16 (some q8) := ⟨_, rfl⟩
  have A8 := (A7.add (Nat.lt_succ_self d) (by decide +kernel) hq8 hm8 hf8 hg8 hw8).1
  obtain ⟨q9, hq9⟩ : ∃ x, x = nx w8 := ⟨_, rfl⟩
  obtain ⟨m9, hm9⟩ : ∃ x, x = mk w8 15 114688 114688 := ⟨_, rfl⟩
  obtain ⟨f9, hf9⟩ : ∃ x : FI, x = up1 f8 q9 (fun _ => 0) := ⟨_, rfl⟩
  obtain ⟨g9, hg9⟩ : ∃ x : FL, x = up1 g8 q9 (fun _ => 0) := ⟨_, rfl⟩
  obtain ⟨w9, hw9⟩ : ∃ x, x = wR m9 d 19 (some q9) := ⟨_, rfl⟩
  have A9 := (A8.add (Nat.lt_succ_self d) (by decide +kernel) hq9 hm9 hf9 hg9 hw9).1
  obtain ⟨q10, hq10⟩ : ∃ x, x = nx w9 := ⟨_, rfl⟩
  obtain ⟨m10, hm10⟩ : ∃ x, x = mk w9 15 49152 49152 := ⟨_, rfl⟩
  obtain ⟨f10, hf10⟩ : ∃ x : FI, x = up1 f9 q10 (fun _ => 0) := ⟨_, rfl⟩
  obtain ⟨g10, hg10⟩ : ∃ x : FL, x = up1 g9 q10 (fun _ => 0) := ⟨_, rfl⟩
  obtain ⟨w10, hw10⟩ : ∃ x, x = wR m10 d 20 (some q10) := ⟨_, rfl⟩
  have A10 := (A9.add (Nat.lt_succ_self d) (by decide +kernel) hq10 hm10 hf10 hg10 hw10).1
  obtain ⟨q11, hq11⟩ : ∃ x, x = nx w10 := ⟨_, rfl⟩
  obtain ⟨m11, hm11⟩ : ∃ x, x = mk w10 15 8 8 := ⟨_, rfl⟩
  obtain ⟨f11, hf11⟩ : ∃ x : FI, x = up1 f10 q11 (fun _ => 0) := ⟨_, rfl⟩
  obtain ⟨g11, hg11⟩ : ∃ x : FL, x = up1 g10 q11 (fun _ => 0) := ⟨_, rfl⟩
  obtain ⟨w11, hw11⟩ : ∃ x, x = wR m11 d 21 (some q11) := ⟨_, rfl⟩
  have A11 := (A10.add (Nat.lt_succ_self d) (by decide +kernel) hq11 hm11 hf11 hg11 hw11).1
  obtain ⟨q12, hq12⟩ : ∃ x, x = nx w11 := ⟨_, rfl⟩
  obtain ⟨m12, hm12⟩ : ∃ x, x = mk w11 14 300 300 := ⟨_, rfl⟩
  obtain ⟨f12, hf12⟩ : ∃ x : FI, x = up1 f11 q12 (fun _ => 0) := ⟨_, rfl⟩
  obtain ⟨g12, hg12⟩ : ∃ x : FL, x = up1 g11 q12 (fun _ => 0) := ⟨_, rfl⟩
  obtain ⟨w12, hw12⟩ : ∃ x, x = wR m12 d 22 (some q12) := ⟨_, rfl⟩
  have A12 := (A11.add (Nat.lt_succ_self d) (by decide +kernel) hq12 hm12 hf12 hg12 hw12).1
  obtain ⟨q13, hq13⟩ : ∃ x, x = nx w12 := ⟨_, rfl⟩
  obtain ⟨m13, hm13⟩ : ∃ x, x = mk w12 14 4 4 := ⟨_, rfl⟩
  obtain ⟨f13, hf13⟩ : ∃ x : FI, x = up1 f12 q13 (fun _ => 0) := ⟨_, rfl⟩
  obtain ⟨g13, hg13⟩ : ∃ x : FL, x = up1 g12 q13 (fun _ => 0) := ⟨_, rfl⟩
  obtain ⟨w13, hw13⟩ : ∃ x, x = wR m13 d 23 (some q13) := ⟨_, rfl⟩
  have A13 := (A12.add (Nat.lt_succ_self d) (by decide +kernel) hq13 hm13 hf13 hg13 hw13).1
  obtain ⟨q14, hq14⟩ : ∃ x, x = nx w13 := ⟨_, rfl⟩
  obtain ⟨m14, hm14⟩ : ∃ x, x = mk w13 14 4 4 := ⟨_, rfl⟩
  obtain ⟨f14, hf14⟩ : ∃ x : FI, x = up1 f13 q14 (fun _ => 0) := ⟨_, rfl⟩
  obtain ⟨g14, hg14⟩ : ∃ x : FL, x = up1 g13 q14 (fun _ => 0) := ⟨_, rfl⟩
  obtain ⟨w14, hw14⟩ : ∃ x, x = wR m14 d 24 (some q14) := ⟨_, rfl⟩
  have A14 := (A13.add (Nat.lt_succ_self d) (by decide +kernel) hq14 hm14 hf14 hg14 hw14).1
  obtain ⟨q15, hq15⟩ : ∃ x, x = nx w14 := ⟨_, rfl⟩
  obtain ⟨m15, hm15⟩ : ∃ x, x = mk w14 14 4 4 := ⟨_, rfl⟩
  obtain ⟨f15, hf15⟩ : ∃ x : FI, x = up1 f14 q15 (fun _ => 0) := ⟨_, rfl⟩
  obtain ⟨g15, hg15⟩ : ∃ x : FL, x = up1 g14 q15 (fun _ => 0) := ⟨_, rfl⟩
  obtain ⟨w15, hw15⟩ : ∃ x, x = wR m15 d 25 (some q15) := ⟨_, rfl⟩
  have A15 := (A14.add (Nat.lt_succ_self d) (by decide +kernel) hq15 hm15 hf15 hg15 hw15).1
  obtain ⟨q16, hq16⟩ : ∃ x, x = nx w15 := ⟨_, rfl⟩
  obtain ⟨m16, hm16⟩ : ∃ x, x = mk w15 14 4 4 := ⟨_, rfl⟩
  obtain ⟨f16, hf16⟩ : ∃ x : FI, x = up1 f15 q16 (fun _ => 0) := ⟨_, rfl⟩
  obtain ⟨g16, hg16⟩ : ∃ x : FL, x = up1 g15 q16 (fun _ => 0) := ⟨_, rfl⟩
  obtain ⟨w16, hw16⟩ : ∃ x, x = wR m16 d 26 (some q16) := ⟨_, rfl⟩
  have A16 := (A15.add (Nat.lt_succ_self d) (by decide +kernel) hq16 hm16 hf16 hg16 hw16).1
  obtain ⟨q17, hq17⟩ : ∃ x, x = nx w16 := ⟨_, rfl⟩
  obtain ⟨m17, hm17⟩ : ∃ x, x = mk w16 14 4 4 := ⟨_, rfl⟩
  obtain ⟨f17, hf17⟩ : ∃ x : FI, x = up1 f16 q17 (fun _ => 0) := ⟨_, rfl⟩
  obtain ⟨g17, hg17⟩ : ∃ x : FL, x = up1 g16 q17 (fun _ => 0) := ⟨_, rfl⟩
  obtain ⟨w17, hw17⟩ : ∃ x, x = wR m17 d 27 (some q17) := ⟨_, rfl⟩
  have A17 := (A16.add (Nat.lt_succ_self d) (by decide +kernel) hq17 hm17 hf17 hg17 hw17).1
  obtain ⟨q18, hq18⟩ : ∃ x, x = nx w17 := ⟨_, rfl⟩
  obtain ⟨m18, hm18⟩ : ∃ x, x = mk w17 14 192 192 := ⟨_, rfl⟩
  obtain ⟨f18, hf18⟩ : ∃ x : FI, x = up1 f17 q18 (fun _ => 0) := ⟨_, rfl⟩
  obtain ⟨g18, hg18⟩ : ∃ x : FL, x = up1 g17 q18 (fun _ => 0) := ⟨_, rfl⟩
  obtain ⟨w18, hw18⟩ : ∃ x, x = wR m18 d 28 (some q18) := ⟨_, rfl⟩
  have A18 := (A17.add (Nat.lt_succ_self d) (by decide +kernel) hq18 hm18 hf18 hg18 hw18).1
  obtain ⟨q19, hq19⟩ : ∃ x, x = nx w18 := ⟨_, rfl⟩
  obtain ⟨m19, hm19⟩ : ∃ x, x = mk w18 14 192 192 := ⟨_, rfl⟩
  obtain ⟨f19, hf19⟩ : ∃ x : FI, x = up1 f18 q19 (fun _ => 0) := ⟨_, rfl⟩
  obtain ⟨g19, hg19⟩ : ∃ x : FL, x = up1 g18 q19 (fun _ => 0) := ⟨_, rfl⟩
  obtain ⟨w19, hw19⟩ : ∃ x, x = wR m19 d 29 (some q19) := ⟨_, rfl⟩
  have A19 := (A18.add (Nat.lt_succ_self d) (by decide +kernel) hq19 hm19 hf19 hg19 hw19).1
  obtain ⟨q20, hq20⟩ : ∃ x, x = nx w19 := ⟨_, rfl⟩
  obtain ⟨m20, hm20⟩ : ∃ x, x = mk w19 14 192 192 := ⟨_, rfl⟩
  obtain ⟨f20, hf20⟩ : ∃ x : FI, x = up1 f19 q20 (fun _ => 0) := ⟨_, rfl⟩
  obtain ⟨g20, hg20⟩ : ∃ x : FL, x = up1 g19 q20 (fun _ => 0) := ⟨_, rfl⟩
  obtain ⟨w20, hw20⟩ : ∃ x, x = wR m20 d 30 (some q20) := ⟨_, rfl⟩
  have A20 := (A19.add (Nat.lt_succ_self d) (by decide +kernel) hq20 hm20 hf20 hg20 hw20).1
  obtain ⟨q21, hq21⟩ : ∃ x, x = nx w20 := ⟨_, rfl⟩
  obtain ⟨m21, hm21⟩ : ∃ x, x = mk w20 14 16 16 := ⟨_, rfl⟩
  obtain ⟨f21, hf21⟩ : ∃ x : FI, x = up1 f20 q21 (fun _ => 0) := ⟨_, rfl⟩
  obtain ⟨g21, hg21⟩ : ∃ x : FL, x = up1 g20 q21 (fun _ => 0) := ⟨_, rfl⟩
  obtain ⟨w21, hw21⟩ : ∃ x, x = wR m21 d 31 (some q21) := ⟨_, rfl⟩
  have A21 := (A20.add (Nat.lt_succ_self d) (by decide +kernel) hq21 hm21 hf21 hg21 hw21).1
  obtain ⟨q22, hq22⟩ : ∃ x, x = nx w21 := ⟨_, rfl⟩
  obtain ⟨m22, hm22⟩ : ∃ x, x = mk w21 16 64 64 := ⟨_, rfl⟩
  obtain ⟨f22, hf22⟩ : ∃ x : FI, x = up1 f21 q22 (fun _ => 0) := ⟨_, rfl⟩
  obtain ⟨g22, hg22⟩ : ∃ x : FL, x = up1 g21 q22 (fun _ => 0) := ⟨_, rfl⟩
  obtain ⟨w22, hw22⟩ : ∃ x, x = wR m22 d 32 (some q22) := ⟨_, rfl⟩
  have A22 := (A21.add (Nat.lt_succ_self d) (by decide +kernel) hq22 hm22 hf22 hg22 hw22).1
  obtain ⟨q23, hq23⟩ : ∃ x, x = nx w22 := ⟨_, rfl⟩
  obtain ⟨m23, hm23⟩ : ∃ x, x = mk w22 14 513 513 := ⟨_, rfl⟩
  obtain ⟨f23, hf23⟩ : ∃ x : FI, x = up1 f22 q23 (fun _ => 0) := ⟨_, rfl⟩
  obtain ⟨g23, hg23⟩ : ∃ x : FL, x = up1 g22 q23 (fun _ => 0) := ⟨_, rfl⟩
  obtain ⟨w23, hw23⟩ : ∃ x, x = wR m23 d 35 (some q23) := ⟨_, rfl⟩
  have A23 := (A22.add (Nat.lt_succ_self d) (by decide +kernel) hq23 hm23 hf23 hg23 hw23).1
  obtain ⟨q24, hq24⟩ : ∃ x, x = nx w23 := ⟨_, rfl⟩
  obtain ⟨m24, hm24⟩ : ∃ x, x = mk w23 14 512 512 := ⟨_, rfl⟩
  obtain ⟨f24, hf24⟩ : ∃ x : FI, x = up1 f23 q24 (fun _ => 0) := ⟨_, rfl⟩
  obtain ⟨g24, hg24⟩ : ∃ x : FL, x = up1 g23 q24 (fun _ => 0) := ⟨_, rfl⟩
  obtain ⟨w24, hw24⟩ : ∃ x, x = wR m24 d 36 (some q24) := ⟨_, rfl⟩
  have A24 := (A23.add (Nat.lt_succ_self d) (by decide +kernel) hq24 hm24 hf24 hg24 hw24).1
  obtain ⟨q25, hq25⟩ : ∃ x, x = nx w24 := ⟨_, rfl⟩
  obtain ⟨m25, hm25⟩ : ∃ x, x = mk w24 15 512 512 := ⟨_, rfl⟩
  obtain ⟨f25, hf25⟩ : ∃ x : FI, x = up1 f24 q25 (fun _ => 0) := ⟨_, rfl⟩
  obtain ⟨g25, hg25⟩ : ∃ x : FL, x = up1 g24 q25 (fun _ => 0) := ⟨_, rfl⟩
  obtain ⟨w25, hw25⟩ : ∃ x, x = wR m25 d 42 (some q25) := ⟨_, rfl⟩
  have A25 := (A24.add (Nat.lt_succ_self d) (by decide +kernel) hq25 hm25 hf25 hg25 hw25).1
  obtain ⟨q26, hq26⟩ : ∃ x, x = nx w25 := ⟨_, rfl⟩
  obtain ⟨m26, hm26⟩ : ∃ x, x = mk w25 14 512 512 := ⟨_, rfl⟩
  obtain ⟨f26, hf26⟩ : ∃ x : FI, x = up1 f25 q26 (fun _ => 0) := ⟨_, rfl⟩
  obtain ⟨g26, hg26⟩ : ∃ x : FL, x = up1 g25 q26 (fun _ => 0) := ⟨_, rfl⟩
  obtain ⟨w26, hw26⟩ : ∃ x, x = wR m26 d 43 (some q26) := ⟨_, rfl⟩
  have A26 := (A25.add (Nat.lt_succ_self d) (by decide +kernel) hq26 hm26 hf26 hg26 hw26).1
  obtain ⟨q27, hq27⟩ : ∃ x, x = nx w26 := ⟨_, rfl⟩
  obtain ⟨m27, hm27⟩ : ∃ x, x = mk w26 14 512 512 := ⟨_, rfl⟩
  obtain ⟨f27, hf27⟩ : ∃ x : FI, x = up1 f26 q27 (fun _ => 0) := ⟨_, rfl⟩
  obtain ⟨g27, hg27⟩ : ∃ x : FL, x = up1 g26 q27 (fun _ => 0) := ⟨_, rfl⟩
  obtain ⟨w27, hw27⟩ : ∃ x, x = wR m27 d 44 (some q27) := ⟨_, rfl⟩
  have A27 := (A26.add (Nat.lt_succ_self d) (by decide +kernel) hq27 hm27 hf27 hg27 hw27).1
  obtain ⟨q28, hq28⟩ : ∃ x, x = nx w27 := ⟨_, rfl⟩
  obtain ⟨m28, hm28⟩ : ∃ x, x = mk w27 14 513 513 := ⟨_, rfl⟩
  obtain ⟨f28, hf28⟩ : ∃ x : FI, x = up1 f27 q28 (fun _ => 0) := ⟨_, rfl⟩
  obtain ⟨g28, hg28⟩ : ∃ x : FL, x = up1 g27 q28 (fun _ => 0) := ⟨_, rfl⟩
  obtain ⟨w28, hw28⟩ : ∃ x, x = wR m28 d 45 (some q28) := ⟨_, rfl⟩
  have A28 := (A27.add (Nat.lt_succ_self d) (by decide +kernel) hq28 hm28 hf28 hg28 hw28).1
  obtain ⟨q29, hq29⟩ : ∃ x, x = nx w28 := ⟨_, rfl⟩
  obtain ⟨m29, hm29⟩ : ∃ x, x = mk w28 14 64 64 := ⟨_, rfl⟩
  obtain ⟨f29, hf29⟩ : ∃ x : FI, x = up1 f28 q29 (fun _ => 0) := ⟨_, rfl⟩
  obtain ⟨g29, hg29⟩ : ∃ x : FL, x = up1 g28 q29 (fun _ => 0) := ⟨_, rfl⟩
  obtain ⟨w29, hw29⟩ : ∃ x, x = wR m29 d 46 (some q29) := ⟨_, rfl⟩
  have A29 := (A28.add (Nat.lt_succ_self d) (by decide +kernel) hq29 hm29 hf29 hg29 hw29).1
  obtain ⟨q30, hq30⟩ : ∃ x, x = nx w29 := ⟨_, rfl⟩
  obtain ⟨m30, hm30⟩ : ∃ x, x = mk w29 14 64 64 := ⟨_, rfl⟩
  obtain ⟨f30, hf30⟩ : ∃ x : FI, x = up1 f29 q30 (fun _ => 0) := ⟨_, rfl⟩
  obtain ⟨g30, hg30⟩ : ∃ x : FL, x = up1 g29 q30 (fun _ => 0) := ⟨_, rfl⟩
  obtain ⟨w30, hw30⟩ : ∃ x, x = wR m30 d 47 (some q30) := ⟨_, rfl⟩
  have A30 := (A29.add (Nat.lt_succ_self d) (by decide +kernel) hq30 hm30 hf30 hg30 hw30).1
  obtain ⟨q31, hq31⟩ : ∃ x, x = nx w30 := ⟨_, rfl⟩
  obtain ⟨m31, hm31⟩ : ∃ x, x = mk w30 16 256 256 := ⟨_, rfl⟩
  obtain ⟨f31, hf31⟩ : ∃ x : FI, x = up1 f30 q31 (fun _ => 0) := ⟨_, rfl⟩
  obtain ⟨g31, hg31⟩ : ∃ x : FL, x = up1 g30 q31 (fun _ => 0) := ⟨_, rfl⟩
  obtain ⟨w31, hw31⟩ : ∃ x, x = wR m31 d 48 (some q31) := ⟨_, rfl⟩
  have A31 := (A30.add (Nat.lt_succ_self d) (by decide +kernel) hq31 hm31 hf31 hg31 hw31).1
  obtain ⟨q32, hq32⟩ : ∃ x, x = nx w31 := ⟨_, rfl⟩
  obtain ⟨m32, hm32⟩ : ∃ x, x = mk w31 16 256 256 := ⟨_, rfl⟩
  obtain ⟨f32, hf32⟩ : ∃ x : FI, x = up1 f31 q32 (fun _ => 0) := ⟨_, rfl⟩
  obtain ⟨g32, hg32⟩ : ∃ x : FL, x = up1 g31 q32 (fun _ => 0) := ⟨_, rfl⟩
  obtain ⟨w32, hw32⟩ : ∃ x, x = wR m32 d 49 (some q32) := ⟨_, rfl⟩
  have A32 := (A31.add (Nat.lt_succ_self d) (by decide +kernel) hq32 hm32 hf32 hg32 hw32).1
  obtain ⟨q33, hq33⟩ : ∃ x, x = nx w32 := ⟨_, rfl⟩
  obtain ⟨m33, hm33⟩ : ∃ x, x = mk w32 14 8 8 := ⟨_, rfl⟩
  obtain ⟨f33, hf33⟩ : ∃ x : FI, x = up1 f32 q33 (fun _ => 0) := ⟨_, rfl⟩
  obtain ⟨g33, hg33⟩ : ∃ x : FL, x = up1 g32 q33 (fun _ => 0) := ⟨_, rfl⟩
  obtain ⟨w33, hw33⟩ : ∃ x, x = wR m33 d 50 (some q33) := ⟨_, rfl⟩
  have A33 := (A32.add (Nat.lt_succ_self d) (by decide +kernel) hq33 hm33 hf33 hg33 hw33).1
  obtain ⟨q34, hq34⟩ : ∃ x, x = nx w33 := ⟨_, rfl⟩
  obtain ⟨m34, hm34⟩ : ∃ x, x = mk w33 14 2 2 := ⟨_, rfl⟩
  obtain ⟨f34, hf34⟩ : ∃ x : FI, x = up1 f33 q34 (fun _ => 0) := ⟨_, rfl⟩
  obtain ⟨g34, hg34⟩ : ∃ x : FL, x = up1 g33 q34 (fun _ => 0) := ⟨_, rfl⟩
  obtain ⟨w34, hw34⟩ : ∃ x, x = wR m34 d 52 (some q34) := ⟨_, rfl⟩
  have A34 := (A33.add (Nat.lt_succ_self d) (by decide +kernel) hq34 hm34 hf34 hg34 hw34).1
  obtain ⟨q35, hq35⟩ : ∃ x, x = nx w34 := ⟨_, rfl⟩
  obtain ⟨m35, hm35⟩ : ∃ x, x = mk w34 14 64 64 := ⟨_, rfl⟩
  obtain ⟨f35, hf35⟩ : ∃ x : FI, x = up1 f34 q35 (fun _ => 0) := ⟨_, rfl⟩
  obtain ⟨g35, hg35⟩ : ∃ x : FL, x = up1 g34 q35 (fun _ => 0) := ⟨_, rfl⟩
  obtain ⟨w35, hw35⟩ : ∃ x, x = wR m35 d 53 (some q35) := ⟨_, rfl⟩
  have A35 := (A34.add (Nat.lt_succ_self d) (by decide +kernel) hq35 hm35 hf35 hg35 hw35).1
  obtain ⟨q36, hq36⟩ : ∃ x, x = nx w35 := ⟨_, rfl⟩
  obtain ⟨m36, hm36⟩ : ∃ x, x = mk w35 14 96 96 := ⟨_, rfl⟩
  obtain ⟨f36, hf36⟩ : ∃ x : FI, x = up1 f35 q36 (fun _ => 0) := ⟨_, rfl⟩
  obtain ⟨g36, hg36⟩ : ∃ x : FL, x = up1 g35 q36 (fun _ => 0) := ⟨_, rfl⟩
  obtain ⟨w36, hw36⟩ : ∃ x, x = wR m36 d 55 (some q36) := ⟨_, rfl⟩
  have A36 := (A35.add (Nat.lt_succ_self d) (by decide +kernel) hq36 hm36 hf36 hg36 hw36).1
  obtain ⟨q37, hq37⟩ : ∃ x, x = nx w36 := ⟨_, rfl⟩
  obtain ⟨m37, hm37⟩ : ∃ x, x = mk w36 14 12 12 := ⟨_, rfl⟩
  obtain ⟨f37, hf37⟩ : ∃ x : FI, x = up1 f36 q37 (fun _ => 0) := ⟨_, rfl⟩
  obtain ⟨g37, hg37⟩ : ∃ x : FL, x = up1 g36 q37 (fun _ => 0) := ⟨_, rfl⟩
  obtain ⟨w37, hw37⟩ : ∃ x, x = wR m37 d 56 (some q37) := ⟨_, rfl⟩
  have A37 := (A36.add (Nat.lt_succ_self d) (by decide +kernel) hq37 hm37 hf37 hg37 hw37).1
  obtain ⟨q38, hq38⟩ : ∃ x, x = nx w37 := ⟨_, rfl⟩
  obtain ⟨m38, hm38⟩ : ∃ x, x = mk w37 14 8 8 := ⟨_, rfl⟩
  obtain ⟨f38, hf38⟩ : ∃ x : FI, x = up1 f37 q38 (fun _ => 0) := ⟨_, rfl⟩
  obtain ⟨g38, hg38⟩ : ∃ x : FL, x = up1 g37 q38 (fun _ => 0) := ⟨_, rfl⟩
  obtain ⟨w38, hw38⟩ : ∃ x, x = wR m38 d 57 (some q38) := ⟨_, rfl⟩
  have A38 := (A37.add (Nat.lt_succ_self d) (by decide +kernel) hq38 hm38 hf38 hg38 hw38).1
  obtain ⟨q39, hq39⟩ : ∃ x, x = nx w38 := ⟨_, rfl⟩
  obtain ⟨m39, hm39⟩ : ∃ x, x = mk w38 14 64 64 := ⟨_, rfl⟩
  obtain ⟨f39, hf39⟩ : ∃ x : FI, x = up1 f38 q39 (fun _ => 0) := ⟨_, rfl⟩
  obtain ⟨g39, hg39⟩ : ∃ x : FL, x = up1 g38 q39 (fun _ => 0) := ⟨_, rfl⟩
  obtain ⟨w39, hw39⟩ : ∃ x, x = wR m39 d 58 (some q39) := ⟨_, rfl⟩
  have A39 := (A38.add (Nat.lt_succ_self d) (by decide +kernel) hq39 hm39 hf39 hg39 hw39).1
  obtain ⟨q40, hq40⟩ : ∃ x, x = nx w39 := ⟨_, rfl⟩
  obtain ⟨m40, hm40⟩ : ∃ x, x = mk w39 14 64 64 := ⟨_, rfl⟩
  obtain ⟨f40, hf40⟩ : ∃ x : FI, x = up1 f39 q40 (fun _ => 0) := ⟨_, rfl⟩
  obtain ⟨g40, hg40⟩ : ∃ x : FL, x = up1 g39 q40 (fun _ => 0) := ⟨_, rfl⟩
  obtain ⟨w40, hw40⟩ : ∃ x, x = wR m40 d 59 (some q40) := ⟨_, rfl⟩
  have A40 := (A39.add (Nat.lt_succ_self d) (by decide +kernel) hq40 hm40 hf40 hg40 hw40).1
  obtain ⟨q41, hq41⟩ : ∃ x, x = nx w40 := ⟨_, rfl⟩
  obtain ⟨m41, hm41⟩ : ∃ x, x = mk w40 14 600 600 := ⟨_, rfl⟩
  obtain ⟨f41, hf41⟩ : ∃ x : FI, x = up1 f40 q41 (fun _ => 0) := ⟨_, rfl⟩
  obtain ⟨g41, hg41⟩ : ∃ x : FL, x = up1 g40 q41 (fun _ => 0) := ⟨_, rfl⟩
  obtain ⟨w41, hw41⟩ : ∃ x, x = wR m41 d 60 (some q41) := ⟨_, rfl⟩
  have A41 := (A40.add (Nat.lt_succ_self d) (by decide +kernel) hq41 hm41 hf41 hg41 hw41).1
  obtain ⟨q42, hq42⟩ : ∃ x, x = nx w41 := ⟨_, rfl⟩
  obtain ⟨m42, hm42⟩ : ∃ x, x = mk w41 14 600 600 := ⟨_, rfl⟩
  obtain ⟨f42, hf42⟩ : ∃ x : FI, x = up1 f41 q42 (fun _ => 0) := ⟨_, rfl⟩
  obtain ⟨g42, hg42⟩ : ∃ x : FL, x = up1 g41 q42 (fun _ => 0) := ⟨_, rfl⟩
  obtain ⟨w42, hw42⟩ : ∃ x, x = wR m42 d 61 (some q42) := ⟨_, rfl⟩
  have A42 := (A41.add (Nat.lt_succ_self d) (by decide +kernel) hq42 hm42 hf42 hg42 hw42).1
  obtain ⟨q43, hq43⟩ : ∃ x, x = nx w42 := ⟨_, rfl⟩
  obtain ⟨m43, hm43⟩ : ∃ x, x = mk w42 14 600 600 := ⟨_, rfl⟩
  obtain ⟨f43, hf43⟩ : ∃ x : FI, x = up1 f42 q43 (fun _ => 0) := ⟨_, rfl⟩
  obtain ⟨g43, hg43⟩ : ∃ x : FL, x = up1 g42 q43 (fun _ => 0) := ⟨_, rfl⟩
  obtain ⟨w43, hw43⟩ : ∃ x, x = wR m43 d 62 (some q43) := ⟨_, rfl⟩
  have A43 := (A42.add (Nat.lt_succ_self d) (by decide +kernel) hq43 hm43 hf43 hg43 hw43).1
  obtain ⟨q44, hq44⟩ : ∃ x, x = nx w43 := ⟨_, rfl⟩
  obtain ⟨m44, hm44⟩ : ∃ x, x = mk w43 14 300 300 := ⟨_, rfl⟩
  obtain ⟨f44, hf44⟩ : ∃ x : FI, x = up1 f43 q44 (fun _ => 0) := ⟨_, rfl⟩
  obtain ⟨g44, hg44⟩ : ∃ x : FL, x = up1 g43 q44 (fun _ => 0) := ⟨_, rfl⟩
  obtain ⟨w44, hw44⟩ : ∃ x, x = wR m44 d 63 (some q44) := ⟨_, rfl⟩
  have A44 := (A43.add (Nat.lt_succ_self d) (by decide +kernel) hq44 hm44 hf44 hg44 hw44).1
  obtain ⟨q45, hq45⟩ : ∃ x, x = nx w44 := ⟨_, rfl⟩
  obtain ⟨m45, hm45⟩ : ∃ x, x = mk w44 13 800 800 := ⟨_, rfl⟩
  obtain ⟨f45, hf45⟩ : ∃ x : FI, x = up1 f44 q45 (fun _ => 0) := ⟨_, rfl⟩
  obtain ⟨g45, hg45⟩ : ∃ x : FL, x = up1 g44 q45 (fun _ => 0) := ⟨_, rfl⟩
  obtain ⟨w45, hw45⟩ : ∃ x, x = wR m45 d 65 (some q45) := ⟨_, rfl⟩
  have A45 := (A44.add (Nat.lt_succ_self d) (by decide +kernel) hq45 hm45 hf45 hg45 hw45).1
  obtain ⟨q46, hq46⟩ : ∃ x, x = nx w45 := ⟨_, rfl⟩
  obtain ⟨m46, hm46⟩ : ∃ x, x = mk w45 14 800 800 := ⟨_, rfl⟩
  obtain ⟨f46, hf46⟩ : ∃ x : FI, x = up1 f45 q46 (fun _ => 0) := ⟨_, rfl⟩
  obtain ⟨g46, hg46⟩ : ∃ x : FL, x = up1 g45 q46 (fun _ => 0) := ⟨_, rfl⟩
  obtain ⟨w46, hw46⟩ : ∃ x, x = wR m46 d 66 (some q46) := ⟨_, rfl⟩
  have A46 := (A45.add (Nat.lt_succ_self d) (by decide +kernel) hq46 hm46 hf46 hg46 hw46).1
  obtain ⟨q47, hq47⟩ : ∃ x, x = nx w46 := ⟨_, rfl⟩
  obtain ⟨m47, hm47⟩ : ∃ x, x = mk w46 14 16 16 := ⟨_, rfl⟩
  obtain ⟨f47, hf47⟩ : ∃ x : FI, x = up1 f46 q47 (fun _ => 0) := ⟨_, rfl⟩
  obtain ⟨g47, hg47⟩ : ∃ x : FL, x = up1 g46 q47 (fun _ => 0) := ⟨_, rfl⟩
  obtain ⟨w47, hw47⟩ : ∃ x, x = wR m47 d 71 (some q47) := ⟨_, rfl⟩
  have A47 := (A46.add (Nat.lt_succ_self d) (by decide +kernel) hq47 hm47 hf47 hg47 hw47).1
  obtain ⟨q48, hq48⟩ : ∃ x, x = nx w47 := ⟨_, rfl⟩
  obtain ⟨m48, hm48⟩ : ∃ x, x = mk w47 14 16 16 := ⟨_, rfl⟩
  obtain ⟨f48, hf48⟩ : ∃ x : FI, x = up1 f47 q48 (fun _ => 0) := ⟨_, rfl⟩
  obtain ⟨g48, hg48⟩ : ∃ x : FL, x = up1 g47 q48 (fun _ => 0) := ⟨_, rfl⟩
  obtain ⟨w48, hw48⟩ : ∃ x, x = wR m48 d 72 (some q48) := ⟨_, rfl⟩
  have A48 := (A47.add (Nat.lt_succ_self d) (by decide +kernel) hq48 hm48 hf48 hg48 hw48).1
  obtain ⟨q49, hq49⟩ : ∃ x, x = nx w48 := ⟨_, rfl⟩
  obtain ⟨m49, hm49⟩ : ∃ x, x = mk w48 14 64 64 := ⟨_, rfl⟩
  obtain ⟨f49, hf49⟩ : ∃ x : FI, x = up1 f48 q49 (fun _ => 0) := ⟨_, rfl⟩
  obtain ⟨g49, hg49⟩ : ∃ x : FL, x = up1 g48 q49 (fun _ => 0) := ⟨_, rfl⟩
  obtain ⟨w49, hw49⟩ : ∃ x, x = wR m49 d 73 (some q49) := ⟨_, rfl⟩
  have A49 := (A48.add (Nat.lt_succ_self d) (by decide +kernel) hq49 hm49 hf49 hg49 hw49).1
  obtain ⟨q50, hq50⟩ : ∃ x, x = nx w49 := ⟨_, rfl⟩
  obtain ⟨m50, hm50⟩ : ∃ x, x = mk w49 14 12 12 := ⟨_, rfl⟩
  obtain ⟨f50, hf50⟩ : ∃ x : FI, x = up1 f49 q50 (fun _ => 0) := ⟨_, rfl⟩
  obtain ⟨g50, hg50⟩ : ∃ x : FL, x = up1 g49 q50 (fun _ => 0) := ⟨_, rfl⟩
  obtain ⟨w50, hw50⟩ : ∃ x, x = wR m50 d 74 (some q50) := ⟨_, rfl⟩
  have A50 := (A49.add (Nat.lt_succ_self d) (by decide +kernel) hq50 hm50 hf50 hg50 hw50).1
  obtain ⟨q51, hq51⟩ : ∃ x, x = nx w50 := ⟨_, rfl⟩
  obtain ⟨m51, hm51⟩ : ∃ x, x = mk w50 14 12 12 := ⟨_, rfl⟩
  obtain ⟨f51, hf51⟩ : ∃ x : FI, x = up1 f50 q51 (fun _ => 0) := ⟨_, rfl⟩
  obtain ⟨g51, hg51⟩ : ∃ x : FL, x = up1 g50 q51 (fun _ => 0) := ⟨_, rfl⟩
  obtain ⟨w51, hw51⟩ : ∃ x, x = wR m51 d 75 (some q51) := ⟨_, rfl⟩
  have A51 := (A50.add (Nat.lt_succ_self d) (by decide +kernel) hq51 hm51 hf51 hg51 hw51).1
  obtain ⟨q52, hq52⟩ : ∃ x, x = nx w51 := ⟨_, rfl⟩
  obtain ⟨m52, hm52⟩ : ∃ x, x = mk w51 14 12 12 := ⟨_, rfl⟩
  obtain ⟨f52, hf52⟩ : ∃ x : FI, x = up1 f51 q52 (fun _ => 0) := ⟨_, rfl⟩
  obtain ⟨g52, hg52⟩ : ∃ x : FL, x = up1 g51 q52 (fun _ => 0) := ⟨_, rfl⟩
  obtain ⟨w52, hw52⟩ : ∃ x, x = wR m52 d 76 (some q52) := ⟨_, rfl⟩
  have A52 := (A51.add (Nat.lt_succ_self d) (by decide +kernel) hq52 hm52 hf52 hg52 hw52).1
  obtain ⟨q53, hq53⟩ : ∃ x, x = nx w52 := ⟨_, rfl⟩
  obtain ⟨m53, hm53⟩ : ∃ x, x = mk w52 14 8 8 := ⟨_, rfl⟩
  obtain ⟨f53, hf53⟩ : ∃ x : FI, x = up1 f52 q53 (fun _ => 0) := ⟨_, rfl⟩
  obtain ⟨g53, hg53⟩ : ∃ x : FL, x = up1 g52 q53 (fun _ => 0) := ⟨_, rfl⟩
  obtain ⟨w53, hw53⟩ : ∃ x, x = wR m53 d 77 (some q53) := ⟨_, rfl⟩
  have A53 := (A52.add (Nat.lt_succ_self d) (by decide +kernel) hq53 hm53 hf53 hg53 hw53).1
  obtain ⟨q54, hq54⟩ : ∃ x, x = nx w53 := ⟨_, rfl⟩
  obtain ⟨m54, hm54⟩ : ∃ x, x = mk w53 14 8 8 := ⟨_, rfl⟩
  obtain ⟨f54, hf54⟩ : ∃ x : FI, x = up1 f53 q54 (fun _ => 0) := ⟨_, rfl⟩
  obtain ⟨g54, hg54⟩ : ∃ x : FL, x = up1 g53 q54 (fun _ => 0) := ⟨_, rfl⟩
  obtain ⟨w54, hw54⟩ : ∃ x, x = wR m54 d 78 (some q54) := ⟨_, rfl⟩
  have A54 := (A53.add (Nat.lt_succ_self d) (by decide +kernel) hq54 hm54 hf54 hg54 hw54).1
  have A : Alf σ f g d (d + 1) [(9, 200), (10, 3600), (11, 3600), (12, 3600), (13, 12), (14, 12), (15, 202), (16, 202), (19, 114688), (20, 49152), (21, 8), (22, 300), (23, 4), (24, 4), (25, 4), (26, 4), (27, 4), (28, 192), (29, 192), (30, 192), (31, 16), (32, 64), (35, 513), (36, 512), (42, 512), (43, 512), (44, 512), (45, 513), (46, 64), (47, 64), (48, 256), (49, 256), (50, 8), (52, 2), (53, 64), (55, 96), (56, 12), (57, 8), (58, 64), (59, 64), (60, 600), (61, 600), (62, 600), (63, 300), (65, 800), (66, 800), (71, 16), (72, 16), (73, 64), (74, 12), (75, 12), (76, 12), (77, 8), (78, 8)] w54 f54 g54 := A54
  refine ⟨w54, f54, g54, A, fun r hr => bk_X12_init_0 ?_⟩
  refine let5 hq1 hm1 hf1 hg1 hw1 ?_
  refine let5 hq2 hm2 hf2 hg2 hw2 ?_
  refine let5 hq3 hm3 hf3 hg3 hw3 ?_
  refine let5 hq4 hm4 hf4 hg4 hw4 ?_
  refine let5 hq5 hm5 hf5 hg5 hw5 ?_
  refine let5 hq6 hm6 hf6 hg6 hw6 ?_
  refine let5 hq7 hm7 hf7 hg7 hw7 ?_
  refine let5 hq8 hm8 hf8 hg8 hw8 ?_
  refine let5 hq9 hm9 hf9 hg9 hw9 ?_
  refine let5 hq10 hm10 hf10 hg10 hw10 ?_
  refine let5 hq11 hm11 hf11 hg11 hw11 ?_
  refine let5 hq12 hm12 hf12 hg12 hw12 ?_
  refine let5 hq13 hm13 hf13 hg13 hw13 ?_
  refine let5 hq14 hm14 hf14 hg14 hw14 ?_
  refine let5 hq15 hm15 hf15 hg15 hw15 ?_
  refine let5 hq16 hm16 hf16 hg16 hw16 ?_
  refine let5 hq17 hm17 hf17 hg17 hw17 ?_
  refine let5 hq18 hm18 hf18 hg18 hw18 ?_
  refine let5 hq19 hm19 hf19 hg19 hw19 ?_
  refine let5 hq20 hm20 hf20 hg20 hw20 ?_
  refine let5 hq21 hm21 hf21 hg21 hw21 ?_
  refine let5 hq22 hm22 hf22 hg22 hw22 ?_
  refine let5 hq23 hm23 hf23 hg23 hw23 ?_
  refine let5 hq24 hm24 hf24 hg24 hw24 ?_
  refine let5 hq25 hm25 hf25 hg25 hw25 ?_
  refine let5 hq26 hm26 hf26 hg26 hw26 ?_
  refine let5 hq27 hm27 hf27 hg27 hw27 ?_
  refine let5 hq28 hm28 hf28 hg28 hw28 ?_
  refine let5 hq29 hm29 hf29 hg29 hw29 ?_
  refine let5 hq30 hm30 hf30 hg30 hw30 ?_
  refine let5 hq31 hm31 hf31 hg31 hw31 ?_
  refine let5 hq32 hm32 hf32 hg32 hw32 ?_
  refine let5 hq33 hm33 hf33 hg33 hw33 ?_
  refine let5 hq34 hm34 hf34 hg34 hw34 ?_
  refine let5 hq35 hm35 hf35 hg35 hw35 ?_
  refine let5 hq36 hm36 hf36 hg36 hw36 ?_
  refine let5 hq37 hm37 hf37 hg37 hw37 ?_
  refine let5 hq38 hm38 hf38 hg38 hw38 ?_
  refine let5 hq39 hm39 hf39 hg39 hw39 ?_
  refine let5 hq40 hm40 hf40 hg40 hw40 ?_
  refine let5 hq41 hm41 hf41 hg41 hw41 ?_
  refine let5 hq42 hm42 hf42 hg42 hw42 ?_
  refine let5 hq43 hm43 hf43 hg43 hw43 ?_
  refine let5 hq44 hm44 hf44 hg44 hw44 ?_
  refine let5 hq45 hm45 hf45 hg45 hw45 ?_
  refine let5 hq46 hm46 hf46 hg46 hw46 ?_
  refine let5 hq47 hm47 hf47 hg47 hw47 ?_
  refine let5 hq48 hm48 hf48 hg48 hw48 ?_
  refine let5 hq49 hm49 hf49 hg49 hw49 ?_
  refine let5 hq50 hm50 hf50 hg50 hw50 ?_
  refine let5 hq51 hm51 hf51 hg51 hw51 ?_
  refine let5 hq52 hm52 hf52 hg52 hw52 ?_
  refine let5 hq53 hm53 hf53 hg53 hw53 ?_
  refine let5 hq54 hm54 hf54 hg54 hw54 ?_
  exact hr
theorem x_init12 {σ : St} {f : FI} {g : FL} {d : Nat} (hd : nx σ = d + 1) : ∃ (σ' : St) (f' : FI) (g' : FL), Ex mt 0 198 (il σ f g) [vR 12 (some d)] (il σ' f' g', []) ∧ Kp d σ σ' f f' g g' ∧ nx σ' = d + 55 ∧ sl σ' = sl σ + 184132 ∧ Sh12 σ' d ∧ (∃ fa : FI, fa d = f d ∧ MI d fa f' ∧ Zr (d + 1) (d + 55) fa g') ∧ g' d = g d := by
  obtain ⟨w, fa, ga, A, go⟩ := x_al12 (f := f) (g := g) hd
  have sh : Sh12 w d := ⟨(A.1.1 0 (by decide)).1, (A.1.1 0 (by decide)).2, (A.1.1 1 (by decide)).1, (A.1.1 1 (by decide)).2, (A.1.1 2 (by decide)).1, (A.1.1 2 (by decide)).2, (A.1.1 3 (by decide)).1, (A.1.1 3 (by decide)).2, (A.1.1 4 (by decide)).1, (A.1.1 4 (by decide)).2, (A.1.1 5 (by decide)).1, (A.1.1 5 (by decide)).2, (A.1.1 6 (by decide)).1, (A.1.1 6 (by decide)).2, (A.1.1 7 (by decide)).1, (A.1.1 7 (by decide)).2, (A.1.1 8 (by decide)).1, (A.1.1 8 (by decide)).2, (A.1.1 9 (by decide)).1, (A.1.1 9 (by decide)).2, (A.1.1 10 (by decide)).1, (A.1.1 10 (by decide)).2, (A.1.1 11 (by decide)).1, (A.1.1 11 (by decide)).2, (A.1.1 12 (by decide)).1, (A.1.1 12 (by decide)).2, (A.1.1 13 (by decide)).1, (A.1.1 13 (by decide)).2, (A.1.1 14 (by decide)).1, (A.1.1 14 (by decide)).2, (A.1.1 15 (by decide)).1, (A.1.1 15 (by decide)).2, (A.1.1 16 (by decide)).1, (A.1.1 16 (by decide)).2, (A.1.1 17 (by decide)).1, (A.1.1 17 (by decide)).2, (A.1.1 18 (by decide)).1, (A.1.1 18 (by decide)).2, (A.1.1 19 (by decide)).1, (A.1.1 19 (by decide)).2, (A.1.1 20 (by decide)).1, (A.1.1 20 (by decide)).2, (A.1.1 21 (by decide)).1, (A.1.1 21 (by decide)).2, (A.1.1 22 (by decide)).1, (A.1.1 22 (by decide)).2, (A.1.1 23 (by decide)).1, (A.1.1 23 (by decide)).2, (A.1.1 24 (by decide)).1, (A.1.1 24 (by decide)).2, (A.1.1 25 (by decide)).1, (A.1.1 25 (by decide)).2, (A.1.1 26 (by decide)).1, (A.1.1 26 (by decide)).2, (A.1.1 27 (by decide)).1, (A.1.1 27 (by decide)).2, (A.1.1 28 (by decide)).1, (A.1.1 28 (by decide)).2, (A.1.1 29 (by decide)).1, (A.1.1 29 (by decide)).2, (A.1.1 30 (by decide)).1, (A.1.1 30 (by decide)).2, (A.1.1 31 (by decide)).1, (A.1.1 31 (by decide)).2, (A.1.1 32 (by decide)).1, (A.1.1 32 (by decide)).2, (A.1.1 33 (by decide)).1, (A.1.1 33 (by decide)).2, (A.1.1 34 (by decide)).1, (A.1.1 34 (by decide)).2, (A.1.1 35 (by decide)).1, (A.1.1 35 (by decide)).2, (A.1.1 36 (by decide)).1, (A.1.1 36 (by decide)).2, (A.1.1 37 (by decide)).1, (A.1.1 37 (by decide)).2, (A.1.1 38 (by decide)).1, (A.1.1 38 (by decide)).2, (A.1.1 39 (by decide)).1, (A.1.1 39 (by decide)).2, (A.1.1 40 (by decide)).1, (A.1.1 40 (by decide)).2, (A.1.1 41 (by decide)).1, (A.1.1 41 (by decide)).2, (A.1.1 42 (by decide)).1, (A.1.1 42 (by decide)).2, (A.1.1 43 (by decide)).1, (A.1.1 43 (by decide)).2, (A.1.1 44 (by decide)).1, (A.1.1 44 (by decide)).2, (A.1.1 45 (by decide)).1, (A.1.1 45 (by decide)).2, (A.1.1 46 (by decide)).1, (A.1.1 46 (by decide)).2, (A.1.1 47 (by decide)).1, (A.1.1 47 (by decide)).2, (A.1.1 48 (by decide)).1, (A.1.1 48 (by decide)).2, (A.1.1 49 (by decide)).1, (A.1.1 49 (by decide)).2, (A.1.1 50 (by decide)).1, (A.1.1 50 (by decide)).2, (A.1.1 51 (by decide)).1, (A.1.1 51 (by decide)).2, (A.1.1 52 (by decide)).1, (A.1.1 52 (by decide)).2, (A.1.1 53 (by decide)).1, (A.1.1 53 (by decide)).2⟩
  obtain ⟨f', A', m⟩ := x_rows12 (f := fa) (g := ga) sh
  exact ⟨w, f', ga, go _ A', (A.kp (d := d) (Nat.le_refl _) (by omega)).trans (fun c hc => ⟨⟨rfl, rfl, fun _ => rfl⟩, m.2.2.2 c (by omega) (by omega) (by omega), rfl⟩), A.1.2.1, A.1.2.2.1, sh, ⟨fa, (A.2.1 d (by omega)).1, m, A.2.2⟩, (A.2.1 d (by omega)).2⟩

set_option maxRecDepth 100000 in
theorem mw_260 : (Cond.lays "BroadcastCarousel$Client" "BroadcastCarousel$Client" "capacity" "I") ∈ bc_wd := bc_mem 260 (by rfl) (by decide +kernel)
set_option maxRecDepth 100000 in
theorem mw_262 : (Cond.lays "BroadcastCarousel$Client" "BroadcastCarousel$Client" "policy" "I") ∈ bc_wd := bc_mem 262 (by rfl) (by decide +kernel)
set_option maxRecDepth 100000 in
theorem mw_264 : (Cond.lays "BroadcastCarousel$Client" "BroadcastCarousel$Client" "time" "I") ∈ bc_wd := bc_mem 264 (by rfl) (by decide +kernel)
set_option maxRecDepth 100000 in
theorem mw_266 : (Cond.lays "BroadcastCarousel$Client" "BroadcastCarousel$Client" "hits" "I") ∈ bc_wd := bc_mem 266 (by rfl) (by decide +kernel)
set_option maxRecDepth 100000 in
theorem mw_268 : (Cond.lays "BroadcastCarousel$Client" "BroadcastCarousel$Client" "misses" "I") ∈ bc_wd := bc_mem 268 (by rfl) (by decide +kernel)
set_option maxRecDepth 100000 in
theorem mw_270 : (Cond.lays "BroadcastCarousel$Client" "BroadcastCarousel$Client" "waited" "I") ∈ bc_wd := bc_mem 270 (by rfl) (by decide +kernel)
set_option maxRecDepth 100000 in
theorem mw_272 : (Cond.lays "BroadcastCarousel$Client" "BroadcastCarousel$Client" "listened" "I") ∈ bc_wd := bc_mem 272 (by rfl) (by decide +kernel)
set_option maxRecDepth 100000 in
theorem mw_274 : (Cond.lays "BroadcastCarousel$Client" "BroadcastCarousel$Client" "cached" "I") ∈ bc_wd := bc_mem 274 (by rfl) (by decide +kernel)
set_option maxRecDepth 100000 in
theorem mw_276 : (Cond.lays "BroadcastCarousel$Client" "BroadcastCarousel$Client" "asked" "I") ∈ bc_wd := bc_mem 276 (by rfl) (by decide +kernel)
set_option maxRecDepth 100000 in
theorem mw_278 : (Cond.laysFinal "BroadcastCarousel$Client" "BroadcastCarousel$Client" "counts" "[I") ∈ bc_wd := bc_mem 278 (by rfl) (by decide +kernel)
set_option maxRecDepth 100000 in
theorem mw_280 : (Cond.laysFinal "BroadcastCarousel$Client" "BroadcastCarousel$Client" "lastAsked" "[I") ∈ bc_wd := bc_mem 280 (by rfl) (by decide +kernel)
set_option maxRecDepth 100000 in
theorem mw_310 : (Cond.lays "BroadcastCarousel$History" "BroadcastCarousel$History" "remembered" "I") ∈ bc_wd := bc_mem 310 (by rfl) (by decide +kernel)
set_option maxRecDepth 100000 in
theorem mw_312 : (Cond.lays "BroadcastCarousel$History" "BroadcastCarousel$History" "next" "I") ∈ bc_wd := bc_mem 312 (by rfl) (by decide +kernel)
set_option maxRecDepth 100000 in
theorem mw_314 : (Cond.laysFinal "BroadcastCarousel$History" "BroadcastCarousel$History" "ring" "[LBroadcastCarousel$State;") ∈ bc_wd := bc_mem 314 (by rfl) (by decide +kernel)
set_option maxRecDepth 100000 in
theorem mw_150 : (Cond.lays "BroadcastCarousel$Parser" "BroadcastCarousel$Parser" "text" "[B") ∈ bc_wd := bc_mem 150 (by rfl) (by decide +kernel)
set_option maxRecDepth 100000 in
theorem mw_152 : (Cond.lays "BroadcastCarousel$Parser" "BroadcastCarousel$Parser" "length" "I") ∈ bc_wd := bc_mem 152 (by rfl) (by decide +kernel)
set_option maxRecDepth 100000 in
theorem mw_154 : (Cond.lays "BroadcastCarousel$Parser" "BroadcastCarousel$Parser" "error" "I") ∈ bc_wd := bc_mem 154 (by rfl) (by decide +kernel)
set_option maxRecDepth 100000 in
theorem mw_156 : (Cond.lays "BroadcastCarousel$Parser" "BroadcastCarousel$Parser" "start" "I") ∈ bc_wd := bc_mem 156 (by rfl) (by decide +kernel)
set_option maxRecDepth 100000 in
theorem mw_158 : (Cond.lays "BroadcastCarousel$Parser" "BroadcastCarousel$Parser" "end" "I") ∈ bc_wd := bc_mem 158 (by rfl) (by decide +kernel)
set_option maxRecDepth 100000 in
theorem mw_160 : (Cond.lays "BroadcastCarousel$Parser" "BroadcastCarousel$Parser" "kind" "I") ∈ bc_wd := bc_mem 160 (by rfl) (by decide +kernel)
set_option maxRecDepth 100000 in
theorem mw_162 : (Cond.lays "BroadcastCarousel$Parser" "BroadcastCarousel$Parser" "value" "I") ∈ bc_wd := bc_mem 162 (by rfl) (by decide +kernel)
set_option maxRecDepth 100000 in
theorem mw_414 : (Cond.lays "BroadcastCarousel$Plan" "BroadcastCarousel$Plan" "bestTime" "I") ∈ bc_wd := bc_mem 414 (by rfl) (by decide +kernel)
set_option maxRecDepth 100000 in
theorem mw_416 : (Cond.laysFinal "BroadcastCarousel$Plan" "BroadcastCarousel$Plan" "best" "[I") ∈ bc_wd := bc_mem 416 (by rfl) (by decide +kernel)
set_option maxRecDepth 100000 in
theorem mw_418 : (Cond.lays "BroadcastCarousel$Plan" "BroadcastCarousel$Plan" "count" "I") ∈ bc_wd := bc_mem 418 (by rfl) (by decide +kernel)
set_option maxRecDepth 100000 in
theorem mw_420 : (Cond.laysFinal "BroadcastCarousel$Plan" "BroadcastCarousel$Plan" "order" "[I") ∈ bc_wd := bc_mem 420 (by rfl) (by decide +kernel)
set_option maxRecDepth 100000 in
theorem mw_422 : (Cond.laysFinal "BroadcastCarousel$Plan" "BroadcastCarousel$Plan" "scratch" "LBroadcastCarousel$Client;") ∈ bc_wd := bc_mem 422 (by rfl) (by decide +kernel)
set_option maxRecDepth 100000 in
theorem mw_341 : (Cond.lays "BroadcastCarousel$Program" "BroadcastCarousel$Program" "cycle" "I") ∈ bc_wd := bc_mem 341 (by rfl) (by decide +kernel)
set_option maxRecDepth 100000 in
theorem mw_343 : (Cond.lays "BroadcastCarousel$Program" "BroadcastCarousel$Program" "dataSlots" "I") ∈ bc_wd := bc_mem 343 (by rfl) (by decide +kernel)
set_option maxRecDepth 100000 in
theorem mw_345 : (Cond.lays "BroadcastCarousel$Program" "BroadcastCarousel$Program" "segments" "I") ∈ bc_wd := bc_mem 345 (by rfl) (by decide +kernel)
set_option maxRecDepth 100000 in
theorem mw_347 : (Cond.lays "BroadcastCarousel$Program" "BroadcastCarousel$Program" "length" "I") ∈ bc_wd := bc_mem 347 (by rfl) (by decide +kernel)
set_option maxRecDepth 100000 in
theorem mw_349 : (Cond.laysFinal "BroadcastCarousel$Program" "BroadcastCarousel$Program" "starts" "[I") ∈ bc_wd := bc_mem 349 (by rfl) (by decide +kernel)
set_option maxRecDepth 100000 in
theorem mw_351 : (Cond.laysFinal "BroadcastCarousel$Program" "BroadcastCarousel$Program" "slots" "[I") ∈ bc_wd := bc_mem 351 (by rfl) (by decide +kernel)
set_option maxRecDepth 100000 in
theorem mw_353 : (Cond.laysFinal "BroadcastCarousel$Program" "BroadcastCarousel$Program" "times" "[[I") ∈ bc_wd := bc_mem 353 (by rfl) (by decide +kernel)
set_option maxRecDepth 100000 in
theorem mw_355 : (Cond.lays "BroadcastCarousel$Program" "BroadcastCarousel$Program" "rounds" "I") ∈ bc_wd := bc_mem 355 (by rfl) (by decide +kernel)
set_option maxRecDepth 100000 in
theorem mw_357 : (Cond.lays "BroadcastCarousel$Program" "BroadcastCarousel$Program" "roundLength" "I") ∈ bc_wd := bc_mem 357 (by rfl) (by decide +kernel)
set_option maxRecDepth 100000 in
theorem mw_359 : (Cond.laysFinal "BroadcastCarousel$Program" "BroadcastCarousel$Program" "members" "[I") ∈ bc_wd := bc_mem 359 (by rfl) (by decide +kernel)
set_option maxRecDepth 100000 in
theorem mw_361 : (Cond.laysFinal "BroadcastCarousel$Program" "BroadcastCarousel$Program" "chunk" "[I") ∈ bc_wd := bc_mem 361 (by rfl) (by decide +kernel)
set_option maxRecDepth 100000 in
theorem mw_363 : (Cond.laysFinal "BroadcastCarousel$Program" "BroadcastCarousel$Program" "offset" "[I") ∈ bc_wd := bc_mem 363 (by rfl) (by decide +kernel)
set_option maxRecDepth 100000 in
theorem mw_215 : (Cond.lays "BroadcastCarousel$Settings" "BroadcastCarousel$Settings" "segments" "I") ∈ bc_wd := bc_mem 215 (by rfl) (by decide +kernel)
set_option maxRecDepth 100000 in
theorem mw_217 : (Cond.lays "BroadcastCarousel$Settings" "BroadcastCarousel$Settings" "length" "I") ∈ bc_wd := bc_mem 217 (by rfl) (by decide +kernel)
set_option maxRecDepth 100000 in
theorem mw_219 : (Cond.lays "BroadcastCarousel$Settings" "BroadcastCarousel$Settings" "disks" "I") ∈ bc_wd := bc_mem 219 (by rfl) (by decide +kernel)
set_option maxRecDepth 100000 in
theorem mw_221 : (Cond.lays "BroadcastCarousel$Settings" "BroadcastCarousel$Settings" "items" "I") ∈ bc_wd := bc_mem 221 (by rfl) (by decide +kernel)
set_option maxRecDepth 100000 in
theorem mw_223 : (Cond.laysFinal "BroadcastCarousel$Settings" "BroadcastCarousel$Settings" "speed" "[I") ∈ bc_wd := bc_mem 223 (by rfl) (by decide +kernel)
set_option maxRecDepth 100000 in
theorem mw_225 : (Cond.laysFinal "BroadcastCarousel$Settings" "BroadcastCarousel$Settings" "popularity" "[I") ∈ bc_wd := bc_mem 225 (by rfl) (by decide +kernel)
set_option maxRecDepth 100000 in
theorem mw_227 : (Cond.laysFinal "BroadcastCarousel$Settings" "BroadcastCarousel$Settings" "disk" "[I") ∈ bc_wd := bc_mem 227 (by rfl) (by decide +kernel)
set_option maxRecDepth 100000 in
theorem mw_229 : (Cond.laysFinal "BroadcastCarousel$Settings" "BroadcastCarousel$Settings" "bound" "[I") ∈ bc_wd := bc_mem 229 (by rfl) (by decide +kernel)
set_option maxRecDepth 100000 in
theorem mw_290 : (Cond.laysFinal "BroadcastCarousel$State" "BroadcastCarousel$State" "settings" "LBroadcastCarousel$Settings;") ∈ bc_wd := bc_mem 290 (by rfl) (by decide +kernel)
set_option maxRecDepth 100000 in
theorem mw_292 : (Cond.lays "BroadcastCarousel$State" "BroadcastCarousel$State" "listeners" "I") ∈ bc_wd := bc_mem 292 (by rfl) (by decide +kernel)
set_option maxRecDepth 100000 in
theorem mw_294 : (Cond.laysFinal "BroadcastCarousel$State" "BroadcastCarousel$State" "clients" "[LBroadcastCarousel$Client;") ∈ bc_wd := bc_mem 294 (by rfl) (by decide +kernel)
set_option maxRecDepth 100000 in
theorem mw_386 : (Cond.laysFinal "BroadcastCarousel$Tiers" "BroadcastCarousel$Tiers" "items" "[I") ∈ bc_wd := bc_mem 386 (by rfl) (by decide +kernel)
set_option maxRecDepth 100000 in
theorem mw_388 : (Cond.laysFinal "BroadcastCarousel$Tiers" "BroadcastCarousel$Tiers" "disks" "[I") ∈ bc_wd := bc_mem 388 (by rfl) (by decide +kernel)
set_option maxRecDepth 100000 in
theorem mw_390 : (Cond.laysFinal "BroadcastCarousel$Tiers" "BroadcastCarousel$Tiers" "bestSizes" "[I") ∈ bc_wd := bc_mem 390 (by rfl) (by decide +kernel)
set_option maxRecDepth 100000 in
theorem mw_392 : (Cond.lays "BroadcastCarousel$Tiers" "BroadcastCarousel$Tiers" "bestWeight" "J") ∈ bc_wd := bc_mem 392 (by rfl) (by decide +kernel)
set_option maxRecDepth 100000 in
theorem mw_394 : (Cond.lays "BroadcastCarousel$Tiers" "BroadcastCarousel$Tiers" "bestCycle" "I") ∈ bc_wd := bc_mem 394 (by rfl) (by decide +kernel)
set_option maxRecDepth 100000 in
theorem mw_396 : (Cond.laysFinal "BroadcastCarousel$Tiers" "BroadcastCarousel$Tiers" "sizes" "[I") ∈ bc_wd := bc_mem 396 (by rfl) (by decide +kernel)
set_option maxRecDepth 100000 in
theorem mw_439 : (Cond.laysFinal "BroadcastCarousel" "BroadcastCarousel" "text" "[B") ∈ bc_wd := bc_mem 439 (by rfl) (by decide +kernel)
set_option maxRecDepth 100000 in
theorem mw_441 : (Cond.lays "BroadcastCarousel" "BroadcastCarousel" "textLength" "I") ∈ bc_wd := bc_mem 441 (by rfl) (by decide +kernel)
set_option maxRecDepth 100000 in
theorem mw_443 : (Cond.lays "BroadcastCarousel" "BroadcastCarousel" "wrongAt" "I") ∈ bc_wd := bc_mem 443 (by rfl) (by decide +kernel)
set_option maxRecDepth 100000 in
theorem mw_445 : (Cond.lays "BroadcastCarousel" "BroadcastCarousel" "loaded" "Z") ∈ bc_wd := bc_mem 445 (by rfl) (by decide +kernel)
set_option maxRecDepth 100000 in
theorem mw_447 : (Cond.laysFinal "BroadcastCarousel" "BroadcastCarousel" "parser" "LBroadcastCarousel$Parser;") ∈ bc_wd := bc_mem 447 (by rfl) (by decide +kernel)
set_option maxRecDepth 100000 in
theorem mw_449 : (Cond.laysFinal "BroadcastCarousel" "BroadcastCarousel" "draft" "LBroadcastCarousel$State;") ∈ bc_wd := bc_mem 449 (by rfl) (by decide +kernel)
set_option maxRecDepth 100000 in
theorem mw_451 : (Cond.laysFinal "BroadcastCarousel" "BroadcastCarousel" "now" "LBroadcastCarousel$State;") ∈ bc_wd := bc_mem 451 (by rfl) (by decide +kernel)
set_option maxRecDepth 100000 in
theorem mw_453 : (Cond.laysFinal "BroadcastCarousel" "BroadcastCarousel" "history" "LBroadcastCarousel$History;") ∈ bc_wd := bc_mem 453 (by rfl) (by decide +kernel)
set_option maxRecDepth 100000 in
theorem mw_455 : (Cond.laysFinal "BroadcastCarousel" "BroadcastCarousel" "program" "LBroadcastCarousel$Program;") ∈ bc_wd := bc_mem 455 (by rfl) (by decide +kernel)
set_option maxRecDepth 100000 in
theorem mw_457 : (Cond.laysFinal "BroadcastCarousel" "BroadcastCarousel" "trial" "LBroadcastCarousel$Settings;") ∈ bc_wd := bc_mem 457 (by rfl) (by decide +kernel)
set_option maxRecDepth 100000 in
theorem mw_459 : (Cond.laysFinal "BroadcastCarousel" "BroadcastCarousel" "trialProgram" "LBroadcastCarousel$Program;") ∈ bc_wd := bc_mem 459 (by rfl) (by decide +kernel)
set_option maxRecDepth 100000 in
theorem mw_461 : (Cond.laysFinal "BroadcastCarousel" "BroadcastCarousel" "trialClient" "LBroadcastCarousel$Client;") ∈ bc_wd := bc_mem 461 (by rfl) (by decide +kernel)
set_option maxRecDepth 100000 in
theorem mw_463 : (Cond.laysFinal "BroadcastCarousel" "BroadcastCarousel" "tiers" "LBroadcastCarousel$Tiers;") ∈ bc_wd := bc_mem 463 (by rfl) (by decide +kernel)
set_option maxRecDepth 100000 in
theorem mw_465 : (Cond.laysFinal "BroadcastCarousel" "BroadcastCarousel" "plan" "LBroadcastCarousel$Plan;") ∈ bc_wd := bc_mem 465 (by rfl) (by decide +kernel)
set_option maxRecDepth 100000 in
theorem mw_1394 : (Cond.laysFinal "BroadcastCarouselModel" "BroadcastCarouselModel" "row" "[I") ∈ bc_wd := bc_mem 1394 (by rfl) (by decide +kernel)
set_option maxRecDepth 100000 in
theorem mw_1396 : (Cond.laysFinal "BroadcastCarouselModel" "BroadcastCarouselModel" "past" "[I") ∈ bc_wd := bc_mem 1396 (by rfl) (by decide +kernel)
set_option maxRecDepth 100000 in
theorem mw_1398 : (Cond.lays "BroadcastCarouselModel" "BroadcastCarouselModel" "actions" "I") ∈ bc_wd := bc_mem 1398 (by rfl) (by decide +kernel)
set_option maxRecDepth 100000 in
theorem mw_1400 : (Cond.lays "BroadcastCarouselModel" "BroadcastCarouselModel" "isLoaded" "Z") ∈ bc_wd := bc_mem 1400 (by rfl) (by decide +kernel)
set_option maxRecDepth 100000 in
theorem mw_1402 : (Cond.lays "BroadcastCarouselModel" "BroadcastCarouselModel" "thrown" "I") ∈ bc_wd := bc_mem 1402 (by rfl) (by decide +kernel)
set_option maxRecDepth 100000 in
theorem mw_1404 : (Cond.lays "BroadcastCarouselModel" "BroadcastCarouselModel" "disks" "I") ∈ bc_wd := bc_mem 1404 (by rfl) (by decide +kernel)
set_option maxRecDepth 100000 in
theorem mw_1406 : (Cond.lays "BroadcastCarouselModel" "BroadcastCarouselModel" "items" "I") ∈ bc_wd := bc_mem 1406 (by rfl) (by decide +kernel)
set_option maxRecDepth 100000 in
theorem mw_1408 : (Cond.lays "BroadcastCarouselModel" "BroadcastCarouselModel" "clients" "I") ∈ bc_wd := bc_mem 1408 (by rfl) (by decide +kernel)
set_option maxRecDepth 100000 in
theorem mw_1410 : (Cond.laysFinal "BroadcastCarouselModel" "BroadcastCarouselModel" "capacity" "[I") ∈ bc_wd := bc_mem 1410 (by rfl) (by decide +kernel)
set_option maxRecDepth 100000 in
theorem mw_1412 : (Cond.laysFinal "BroadcastCarouselModel" "BroadcastCarouselModel" "policy" "[I") ∈ bc_wd := bc_mem 1412 (by rfl) (by decide +kernel)
set_option maxRecDepth 100000 in
theorem mw_1414 : (Cond.laysFinal "BroadcastCarouselModel" "BroadcastCarouselModel" "buffer" "[I") ∈ bc_wd := bc_mem 1414 (by rfl) (by decide +kernel)
set_option maxRecDepth 100000 in
theorem mw_1416 : (Cond.lays "BroadcastCarouselModel" "BroadcastCarouselModel" "buffered" "I") ∈ bc_wd := bc_mem 1416 (by rfl) (by decide +kernel)
set_option maxRecDepth 100000 in
theorem mw_1418 : (Cond.lays "BroadcastCarouselModel" "BroadcastCarouselModel" "textSize" "I") ∈ bc_wd := bc_mem 1418 (by rfl) (by decide +kernel)
set_option maxRecDepth 100000 in
theorem mw_1420 : (Cond.lays "BroadcastCarouselModel" "BroadcastCarouselModel" "at" "I") ∈ bc_wd := bc_mem 1420 (by rfl) (by decide +kernel)
set_option maxRecDepth 100000 in
theorem mw_1422 : (Cond.lays "BroadcastCarouselModel" "BroadcastCarouselModel" "start" "I") ∈ bc_wd := bc_mem 1422 (by rfl) (by decide +kernel)
set_option maxRecDepth 100000 in
theorem mw_1424 : (Cond.lays "BroadcastCarouselModel" "BroadcastCarouselModel" "token" "I") ∈ bc_wd := bc_mem 1424 (by rfl) (by decide +kernel)
set_option maxRecDepth 100000 in
theorem mw_1426 : (Cond.lays "BroadcastCarouselModel" "BroadcastCarouselModel" "number" "I") ∈ bc_wd := bc_mem 1426 (by rfl) (by decide +kernel)
set_option maxRecDepth 100000 in
theorem mw_1428 : (Cond.lays "BroadcastCarouselModel" "BroadcastCarouselModel" "errorCode" "I") ∈ bc_wd := bc_mem 1428 (by rfl) (by decide +kernel)
set_option maxRecDepth 100000 in
theorem mw_1430 : (Cond.lays "BroadcastCarouselModel" "BroadcastCarouselModel" "errorAt" "I") ∈ bc_wd := bc_mem 1430 (by rfl) (by decide +kernel)
set_option maxRecDepth 100000 in
theorem mw_1432 : (Cond.laysFinal "BroadcastCarouselModel" "BroadcastCarouselModel" "draft" "[I") ∈ bc_wd := bc_mem 1432 (by rfl) (by decide +kernel)
set_option maxRecDepth 100000 in
theorem mw_1434 : (Cond.lays "BroadcastCarouselModel" "BroadcastCarouselModel" "draftDisks" "I") ∈ bc_wd := bc_mem 1434 (by rfl) (by decide +kernel)
set_option maxRecDepth 100000 in
theorem mw_1436 : (Cond.lays "BroadcastCarouselModel" "BroadcastCarouselModel" "draftItems" "I") ∈ bc_wd := bc_mem 1436 (by rfl) (by decide +kernel)
set_option maxRecDepth 100000 in
theorem mw_1438 : (Cond.lays "BroadcastCarouselModel" "BroadcastCarouselModel" "draftClients" "I") ∈ bc_wd := bc_mem 1438 (by rfl) (by decide +kernel)
set_option maxRecDepth 100000 in
theorem mw_1440 : (Cond.laysFinal "BroadcastCarouselModel" "BroadcastCarouselModel" "aside" "[I") ∈ bc_wd := bc_mem 1440 (by rfl) (by decide +kernel)
set_option maxRecDepth 100000 in
theorem mw_1442 : (Cond.laysFinal "BroadcastCarouselModel" "BroadcastCarouselModel" "data" "[I") ∈ bc_wd := bc_mem 1442 (by rfl) (by decide +kernel)
set_option maxRecDepth 100000 in
theorem mw_1444 : (Cond.lays "BroadcastCarouselModel" "BroadcastCarouselModel" "dataSize" "I") ∈ bc_wd := bc_mem 1444 (by rfl) (by decide +kernel)
set_option maxRecDepth 100000 in
theorem mw_1446 : (Cond.laysFinal "BroadcastCarouselModel" "BroadcastCarouselModel" "program" "[I") ∈ bc_wd := bc_mem 1446 (by rfl) (by decide +kernel)
set_option maxRecDepth 100000 in
theorem mw_1448 : (Cond.lays "BroadcastCarouselModel" "BroadcastCarouselModel" "length" "I") ∈ bc_wd := bc_mem 1448 (by rfl) (by decide +kernel)
set_option maxRecDepth 100000 in
theorem mw_1450 : (Cond.laysFinal "BroadcastCarouselModel" "BroadcastCarouselModel" "far" "[I") ∈ bc_wd := bc_mem 1450 (by rfl) (by decide +kernel)
set_option maxRecDepth 100000 in
theorem mw_1452 : (Cond.laysFinal "BroadcastCarouselModel" "BroadcastCarouselModel" "farSegment" "[I") ∈ bc_wd := bc_mem 1452 (by rfl) (by decide +kernel)
set_option maxRecDepth 100000 in
theorem mw_1454 : (Cond.lays "BroadcastCarouselModel" "BroadcastCarouselModel" "removed" "I") ∈ bc_wd := bc_mem 1454 (by rfl) (by decide +kernel)
set_option maxRecDepth 100000 in
theorem mw_1456 : (Cond.laysFinal "BroadcastCarouselModel" "BroadcastCarouselModel" "order" "[I") ∈ bc_wd := bc_mem 1456 (by rfl) (by decide +kernel)
set_option maxRecDepth 100000 in
theorem mw_1458 : (Cond.laysFinal "BroadcastCarouselModel" "BroadcastCarouselModel" "sizes" "[I") ∈ bc_wd := bc_mem 1458 (by rfl) (by decide +kernel)
set_option maxRecDepth 100000 in
theorem mw_1460 : (Cond.laysFinal "BroadcastCarouselModel" "BroadcastCarouselModel" "bestSizes" "[I") ∈ bc_wd := bc_mem 1460 (by rfl) (by decide +kernel)
set_option maxRecDepth 100000 in
theorem mw_1462 : (Cond.lays "BroadcastCarouselModel" "BroadcastCarouselModel" "bestWeight" "J") ∈ bc_wd := bc_mem 1462 (by rfl) (by decide +kernel)
set_option maxRecDepth 100000 in
theorem mw_1464 : (Cond.lays "BroadcastCarouselModel" "BroadcastCarouselModel" "bestLength" "I") ∈ bc_wd := bc_mem 1464 (by rfl) (by decide +kernel)
set_option maxRecDepth 100000 in
theorem mw_1466 : (Cond.lays "BroadcastCarouselModel" "BroadcastCarouselModel" "isDivided" "Z") ∈ bc_wd := bc_mem 1466 (by rfl) (by decide +kernel)
set_option maxRecDepth 100000 in
theorem mw_1468 : (Cond.laysFinal "BroadcastCarouselModel" "BroadcastCarouselModel" "waiting" "[I") ∈ bc_wd := bc_mem 1468 (by rfl) (by decide +kernel)
set_option maxRecDepth 100000 in
theorem mw_1470 : (Cond.laysFinal "BroadcastCarouselModel" "BroadcastCarouselModel" "tried" "[I") ∈ bc_wd := bc_mem 1470 (by rfl) (by decide +kernel)
set_option maxRecDepth 100000 in
theorem mw_1472 : (Cond.laysFinal "BroadcastCarouselModel" "BroadcastCarouselModel" "plan" "[I") ∈ bc_wd := bc_mem 1472 (by rfl) (by decide +kernel)
set_option maxRecDepth 100000 in
theorem mw_1474 : (Cond.lays "BroadcastCarouselModel" "BroadcastCarouselModel" "planEnd" "I") ∈ bc_wd := bc_mem 1474 (by rfl) (by decide +kernel)
set_option maxRecDepth 100000 in
theorem mw_1476 : (Cond.lays "BroadcastCarouselModel" "BroadcastCarouselModel" "isPlanned" "Z") ∈ bc_wd := bc_mem 1476 (by rfl) (by decide +kernel)
set_option maxRecDepth 100000 in
theorem mw_142 : (Cond.fieldLink "BroadcastCarousel$Parser" (9 : Nat) "BroadcastCarousel$Parser" "text" "[B") ∈ bc_wd := bc_mem 142 (by rfl) (by decide +kernel)
set_option maxRecDepth 100000 in
theorem mw_143 : (Cond.fieldLink "BroadcastCarousel$Parser" (15 : Nat) "BroadcastCarousel$Parser" "length" "I") ∈ bc_wd := bc_mem 143 (by rfl) (by decide +kernel)
set_option maxRecDepth 100000 in
theorem mw_144 : (Cond.fieldLink "BroadcastCarousel$Parser" (19 : Nat) "BroadcastCarousel$Parser" "error" "I") ∈ bc_wd := bc_mem 144 (by rfl) (by decide +kernel)
set_option maxRecDepth 100000 in
theorem mw_145 : (Cond.fieldLink "BroadcastCarousel$Parser" (22 : Nat) "BroadcastCarousel$Parser" "start" "I") ∈ bc_wd := bc_mem 145 (by rfl) (by decide +kernel)
set_option maxRecDepth 100000 in
theorem mw_146 : (Cond.fieldLink "BroadcastCarousel" (105 : Nat) "BroadcastCarousel$Parser" "start" "I") ∈ bc_wd := bc_mem 146 (by rfl) (by decide +kernel)
set_option maxRecDepth 100000 in
theorem mw_147 : (Cond.fieldLink "BroadcastCarousel$Parser" (25 : Nat) "BroadcastCarousel$Parser" "end" "I") ∈ bc_wd := bc_mem 147 (by rfl) (by decide +kernel)
set_option maxRecDepth 100000 in
theorem mw_148 : (Cond.fieldLink "BroadcastCarousel$Parser" (28 : Nat) "BroadcastCarousel$Parser" "kind" "I") ∈ bc_wd := bc_mem 148 (by rfl) (by decide +kernel)
set_option maxRecDepth 100000 in
theorem mw_149 : (Cond.fieldLink "BroadcastCarousel$Parser" (31 : Nat) "BroadcastCarousel$Parser" "value" "I") ∈ bc_wd := bc_mem 149 (by rfl) (by decide +kernel)
set_option maxRecDepth 100000 in
theorem mw_178 : (Cond.fieldLink "BroadcastCarousel$Settings" (9 : Nat) "BroadcastCarousel$Settings" "segments" "I") ∈ bc_wd := bc_mem 178 (by rfl) (by decide +kernel)
set_option maxRecDepth 100000 in
theorem mw_179 : (Cond.fieldLink "BroadcastCarousel$Program" (67 : Nat) "BroadcastCarousel$Settings" "segments" "I") ∈ bc_wd := bc_mem 179 (by rfl) (by decide +kernel)
set_option maxRecDepth 100000 in
theorem mw_180 : (Cond.fieldLink "BroadcastCarousel$Parser" (79 : Nat) "BroadcastCarousel$Settings" "segments" "I") ∈ bc_wd := bc_mem 180 (by rfl) (by decide +kernel)
set_option maxRecDepth 100000 in
theorem mw_181 : (Cond.fieldLink "BroadcastCarousel" (161 : Nat) "BroadcastCarousel$Settings" "segments" "I") ∈ bc_wd := bc_mem 181 (by rfl) (by decide +kernel)
set_option maxRecDepth 100000 in
theorem mw_182 : (Cond.fieldLink "BroadcastCarousel$Settings" (15 : Nat) "BroadcastCarousel$Settings" "length" "I") ∈ bc_wd := bc_mem 182 (by rfl) (by decide +kernel)
set_option maxRecDepth 100000 in
theorem mw_183 : (Cond.fieldLink "BroadcastCarousel$Program" (70 : Nat) "BroadcastCarousel$Settings" "length" "I") ∈ bc_wd := bc_mem 183 (by rfl) (by decide +kernel)
set_option maxRecDepth 100000 in
theorem mw_184 : (Cond.fieldLink "BroadcastCarousel$Parser" (84 : Nat) "BroadcastCarousel$Settings" "length" "I") ∈ bc_wd := bc_mem 184 (by rfl) (by decide +kernel)
set_option maxRecDepth 100000 in
theorem mw_185 : (Cond.fieldLink "BroadcastCarousel" (164 : Nat) "BroadcastCarousel$Settings" "length" "I") ∈ bc_wd := bc_mem 185 (by rfl) (by decide +kernel)
set_option maxRecDepth 100000 in
theorem mw_186 : (Cond.fieldLink "BroadcastCarousel$Settings" (18 : Nat) "BroadcastCarousel$Settings" "disks" "I") ∈ bc_wd := bc_mem 186 (by rfl) (by decide +kernel)
set_option maxRecDepth 100000 in
theorem mw_187 : (Cond.fieldLink "BroadcastCarousel$State" (29 : Nat) "BroadcastCarousel$Settings" "disks" "I") ∈ bc_wd := bc_mem 187 (by rfl) (by decide +kernel)
set_option maxRecDepth 100000 in
theorem mw_188 : (Cond.fieldLink "BroadcastCarousel$Tiers" (46 : Nat) "BroadcastCarousel$Settings" "disks" "I") ∈ bc_wd := bc_mem 188 (by rfl) (by decide +kernel)
set_option maxRecDepth 100000 in
theorem mw_189 : (Cond.fieldLink "BroadcastCarousel$Program" (80 : Nat) "BroadcastCarousel$Settings" "disks" "I") ∈ bc_wd := bc_mem 189 (by rfl) (by decide +kernel)
set_option maxRecDepth 100000 in
theorem mw_190 : (Cond.fieldLink "BroadcastCarousel$Parser" (95 : Nat) "BroadcastCarousel$Settings" "disks" "I") ∈ bc_wd := bc_mem 190 (by rfl) (by decide +kernel)
set_option maxRecDepth 100000 in
theorem mw_191 : (Cond.fieldLink "BroadcastCarousel" (177 : Nat) "BroadcastCarousel$Settings" "disks" "I") ∈ bc_wd := bc_mem 191 (by rfl) (by decide +kernel)
set_option maxRecDepth 100000 in
theorem mw_192 : (Cond.fieldLink "BroadcastCarousel$Settings" (21 : Nat) "BroadcastCarousel$Settings" "items" "I") ∈ bc_wd := bc_mem 192 (by rfl) (by decide +kernel)
set_option maxRecDepth 100000 in
theorem mw_193 : (Cond.fieldLink "BroadcastCarousel$Plan" (32 : Nat) "BroadcastCarousel$Settings" "items" "I") ∈ bc_wd := bc_mem 193 (by rfl) (by decide +kernel)
set_option maxRecDepth 100000 in
theorem mw_194 : (Cond.fieldLink "BroadcastCarousel$Tiers" (37 : Nat) "BroadcastCarousel$Settings" "items" "I") ∈ bc_wd := bc_mem 194 (by rfl) (by decide +kernel)
set_option maxRecDepth 100000 in
theorem mw_195 : (Cond.fieldLink "BroadcastCarousel$State" (32 : Nat) "BroadcastCarousel$Settings" "items" "I") ∈ bc_wd := bc_mem 195 (by rfl) (by decide +kernel)
set_option maxRecDepth 100000 in
theorem mw_196 : (Cond.fieldLink "BroadcastCarousel$Program" (74 : Nat) "BroadcastCarousel$Settings" "items" "I") ∈ bc_wd := bc_mem 196 (by rfl) (by decide +kernel)
set_option maxRecDepth 100000 in
theorem mw_197 : (Cond.fieldLink "BroadcastCarousel" (122 : Nat) "BroadcastCarousel$Settings" "items" "I") ∈ bc_wd := bc_mem 197 (by rfl) (by decide +kernel)
set_option maxRecDepth 100000 in
theorem mw_198 : (Cond.fieldLink "BroadcastCarousel$Client" (79 : Nat) "BroadcastCarousel$Settings" "items" "I") ∈ bc_wd := bc_mem 198 (by rfl) (by decide +kernel)
set_option maxRecDepth 100000 in
theorem mw_199 : (Cond.fieldLink "BroadcastCarousel$Settings" (24 : Nat) "BroadcastCarousel$Settings" "speed" "[I") ∈ bc_wd := bc_mem 199 (by rfl) (by decide +kernel)
set_option maxRecDepth 100000 in
theorem mw_200 : (Cond.fieldLink "BroadcastCarousel$Tiers" (43 : Nat) "BroadcastCarousel$Settings" "speed" "[I") ∈ bc_wd := bc_mem 200 (by rfl) (by decide +kernel)
set_option maxRecDepth 100000 in
theorem mw_201 : (Cond.fieldLink "BroadcastCarousel$Program" (83 : Nat) "BroadcastCarousel$Settings" "speed" "[I") ∈ bc_wd := bc_mem 201 (by rfl) (by decide +kernel)
set_option maxRecDepth 100000 in
theorem mw_202 : (Cond.fieldLink "BroadcastCarousel" (158 : Nat) "BroadcastCarousel$Settings" "speed" "[I") ∈ bc_wd := bc_mem 202 (by rfl) (by decide +kernel)
set_option maxRecDepth 100000 in
theorem mw_203 : (Cond.fieldLink "BroadcastCarousel$Settings" (28 : Nat) "BroadcastCarousel$Settings" "popularity" "[I") ∈ bc_wd := bc_mem 203 (by rfl) (by decide +kernel)
set_option maxRecDepth 100000 in
theorem mw_204 : (Cond.fieldLink "BroadcastCarousel$Tiers" (32 : Nat) "BroadcastCarousel$Settings" "popularity" "[I") ∈ bc_wd := bc_mem 204 (by rfl) (by decide +kernel)
set_option maxRecDepth 100000 in
theorem mw_205 : (Cond.fieldLink "BroadcastCarousel$Client" (88 : Nat) "BroadcastCarousel$Settings" "popularity" "[I") ∈ bc_wd := bc_mem 205 (by rfl) (by decide +kernel)
set_option maxRecDepth 100000 in
theorem mw_206 : (Cond.fieldLink "BroadcastCarousel" (148 : Nat) "BroadcastCarousel$Settings" "popularity" "[I") ∈ bc_wd := bc_mem 206 (by rfl) (by decide +kernel)
set_option maxRecDepth 100000 in
theorem mw_207 : (Cond.fieldLink "BroadcastCarousel$Program" (132 : Nat) "BroadcastCarousel$Settings" "popularity" "[I") ∈ bc_wd := bc_mem 207 (by rfl) (by decide +kernel)
set_option maxRecDepth 100000 in
theorem mw_208 : (Cond.fieldLink "BroadcastCarousel$Settings" (31 : Nat) "BroadcastCarousel$Settings" "disk" "[I") ∈ bc_wd := bc_mem 208 (by rfl) (by decide +kernel)
set_option maxRecDepth 100000 in
theorem mw_209 : (Cond.fieldLink "BroadcastCarousel$Program" (77 : Nat) "BroadcastCarousel$Settings" "disk" "[I") ∈ bc_wd := bc_mem 209 (by rfl) (by decide +kernel)
set_option maxRecDepth 100000 in
theorem mw_210 : (Cond.fieldLink "BroadcastCarousel$Tiers" (82 : Nat) "BroadcastCarousel$Settings" "disk" "[I") ∈ bc_wd := bc_mem 210 (by rfl) (by decide +kernel)
set_option maxRecDepth 100000 in
theorem mw_211 : (Cond.fieldLink "BroadcastCarousel" (170 : Nat) "BroadcastCarousel$Settings" "disk" "[I") ∈ bc_wd := bc_mem 211 (by rfl) (by decide +kernel)
set_option maxRecDepth 100000 in
theorem mw_212 : (Cond.fieldLink "BroadcastCarousel$Settings" (34 : Nat) "BroadcastCarousel$Settings" "bound" "[I") ∈ bc_wd := bc_mem 212 (by rfl) (by decide +kernel)
set_option maxRecDepth 100000 in
theorem mw_213 : (Cond.fieldLink "BroadcastCarousel" (152 : Nat) "BroadcastCarousel$Settings" "bound" "[I") ∈ bc_wd := bc_mem 213 (by rfl) (by decide +kernel)
set_option maxRecDepth 100000 in
theorem mw_214 : (Cond.fieldLink "BroadcastCarousel$Program" (120 : Nat) "BroadcastCarousel$Settings" "bound" "[I") ∈ bc_wd := bc_mem 214 (by rfl) (by decide +kernel)
set_option maxRecDepth 100000 in
theorem mw_240 : (Cond.fieldLink "BroadcastCarousel$Client" (9 : Nat) "BroadcastCarousel$Client" "capacity" "I") ∈ bc_wd := bc_mem 240 (by rfl) (by decide +kernel)
set_option maxRecDepth 100000 in
theorem mw_241 : (Cond.fieldLink "BroadcastCarousel" (293 : Nat) "BroadcastCarousel$Client" "capacity" "I") ∈ bc_wd := bc_mem 241 (by rfl) (by decide +kernel)
set_option maxRecDepth 100000 in
theorem mw_242 : (Cond.fieldLink "BroadcastCarousel$Client" (15 : Nat) "BroadcastCarousel$Client" "policy" "I") ∈ bc_wd := bc_mem 242 (by rfl) (by decide +kernel)
set_option maxRecDepth 100000 in
theorem mw_243 : (Cond.fieldLink "BroadcastCarousel$Client" (18 : Nat) "BroadcastCarousel$Client" "time" "I") ∈ bc_wd := bc_mem 243 (by rfl) (by decide +kernel)
set_option maxRecDepth 100000 in
theorem mw_244 : (Cond.fieldLink "BroadcastCarousel$Plan" (67 : Nat) "BroadcastCarousel$Client" "time" "I") ∈ bc_wd := bc_mem 244 (by rfl) (by decide +kernel)
set_option maxRecDepth 100000 in
theorem mw_245 : (Cond.fieldLink "BroadcastCarousel" (145 : Nat) "BroadcastCarousel$Client" "time" "I") ∈ bc_wd := bc_mem 245 (by rfl) (by decide +kernel)
set_option maxRecDepth 100000 in
theorem mw_246 : (Cond.fieldLink "BroadcastCarousel$Client" (21 : Nat) "BroadcastCarousel$Client" "hits" "I") ∈ bc_wd := bc_mem 246 (by rfl) (by decide +kernel)
set_option maxRecDepth 100000 in
theorem mw_247 : (Cond.fieldLink "BroadcastCarousel" (281 : Nat) "BroadcastCarousel$Client" "hits" "I") ∈ bc_wd := bc_mem 247 (by rfl) (by decide +kernel)
set_option maxRecDepth 100000 in
theorem mw_248 : (Cond.fieldLink "BroadcastCarousel$Client" (24 : Nat) "BroadcastCarousel$Client" "misses" "I") ∈ bc_wd := bc_mem 248 (by rfl) (by decide +kernel)
set_option maxRecDepth 100000 in
theorem mw_249 : (Cond.fieldLink "BroadcastCarousel" (284 : Nat) "BroadcastCarousel$Client" "misses" "I") ∈ bc_wd := bc_mem 249 (by rfl) (by decide +kernel)
set_option maxRecDepth 100000 in
theorem mw_250 : (Cond.fieldLink "BroadcastCarousel$Client" (27 : Nat) "BroadcastCarousel$Client" "waited" "I") ∈ bc_wd := bc_mem 250 (by rfl) (by decide +kernel)
set_option maxRecDepth 100000 in
theorem mw_251 : (Cond.fieldLink "BroadcastCarousel" (287 : Nat) "BroadcastCarousel$Client" "waited" "I") ∈ bc_wd := bc_mem 251 (by rfl) (by decide +kernel)
set_option maxRecDepth 100000 in
theorem mw_252 : (Cond.fieldLink "BroadcastCarousel$Client" (30 : Nat) "BroadcastCarousel$Client" "listened" "I") ∈ bc_wd := bc_mem 252 (by rfl) (by decide +kernel)
set_option maxRecDepth 100000 in
theorem mw_253 : (Cond.fieldLink "BroadcastCarousel" (290 : Nat) "BroadcastCarousel$Client" "listened" "I") ∈ bc_wd := bc_mem 253 (by rfl) (by decide +kernel)
set_option maxRecDepth 100000 in
theorem mw_254 : (Cond.fieldLink "BroadcastCarousel$Client" (33 : Nat) "BroadcastCarousel$Client" "cached" "I") ∈ bc_wd := bc_mem 254 (by rfl) (by decide +kernel)
set_option maxRecDepth 100000 in
theorem mw_255 : (Cond.fieldLink "BroadcastCarousel" (296 : Nat) "BroadcastCarousel$Client" "cached" "I") ∈ bc_wd := bc_mem 255 (by rfl) (by decide +kernel)
set_option maxRecDepth 100000 in
theorem mw_256 : (Cond.fieldLink "BroadcastCarousel$Client" (36 : Nat) "BroadcastCarousel$Client" "asked" "I") ∈ bc_wd := bc_mem 256 (by rfl) (by decide +kernel)
set_option maxRecDepth 100000 in
theorem mw_257 : (Cond.fieldLink "BroadcastCarousel$Client" (39 : Nat) "BroadcastCarousel$Client" "counts" "[I") ∈ bc_wd := bc_mem 257 (by rfl) (by decide +kernel)
set_option maxRecDepth 100000 in
theorem mw_258 : (Cond.fieldLink "BroadcastCarousel" (299 : Nat) "BroadcastCarousel$Client" "counts" "[I") ∈ bc_wd := bc_mem 258 (by rfl) (by decide +kernel)
set_option maxRecDepth 100000 in
theorem mw_259 : (Cond.fieldLink "BroadcastCarousel$Client" (43 : Nat) "BroadcastCarousel$Client" "lastAsked" "[I") ∈ bc_wd := bc_mem 259 (by rfl) (by decide +kernel)
set_option maxRecDepth 100000 in
theorem mw_283 : (Cond.fieldLink "BroadcastCarousel$State" (12 : Nat) "BroadcastCarousel$State" "settings" "LBroadcastCarousel$Settings;") ∈ bc_wd := bc_mem 283 (by rfl) (by decide +kernel)
set_option maxRecDepth 100000 in
theorem mw_284 : (Cond.fieldLink "BroadcastCarousel$Parser" (48 : Nat) "BroadcastCarousel$State" "settings" "LBroadcastCarousel$Settings;") ∈ bc_wd := bc_mem 284 (by rfl) (by decide +kernel)
set_option maxRecDepth 100000 in
theorem mw_285 : (Cond.fieldLink "BroadcastCarousel" (112 : Nat) "BroadcastCarousel$State" "settings" "LBroadcastCarousel$Settings;") ∈ bc_wd := bc_mem 285 (by rfl) (by decide +kernel)
set_option maxRecDepth 100000 in
theorem mw_286 : (Cond.fieldLink "BroadcastCarousel$State" (18 : Nat) "BroadcastCarousel$State" "listeners" "I") ∈ bc_wd := bc_mem 286 (by rfl) (by decide +kernel)
set_option maxRecDepth 100000 in
theorem mw_287 : (Cond.fieldLink "BroadcastCarousel" (278 : Nat) "BroadcastCarousel$State" "listeners" "I") ∈ bc_wd := bc_mem 287 (by rfl) (by decide +kernel)
set_option maxRecDepth 100000 in
theorem mw_288 : (Cond.fieldLink "BroadcastCarousel$State" (24 : Nat) "BroadcastCarousel$State" "clients" "[LBroadcastCarousel$Client;") ∈ bc_wd := bc_mem 288 (by rfl) (by decide +kernel)
set_option maxRecDepth 100000 in
theorem mw_289 : (Cond.fieldLink "BroadcastCarousel" (137 : Nat) "BroadcastCarousel$State" "clients" "[LBroadcastCarousel$Client;") ∈ bc_wd := bc_mem 289 (by rfl) (by decide +kernel)
set_option maxRecDepth 100000 in
theorem mw_306 : (Cond.fieldLink "BroadcastCarousel$History" (9 : Nat) "BroadcastCarousel$History" "remembered" "I") ∈ bc_wd := bc_mem 306 (by rfl) (by decide +kernel)
set_option maxRecDepth 100000 in
theorem mw_307 : (Cond.fieldLink "BroadcastCarousel" (331 : Nat) "BroadcastCarousel$History" "remembered" "I") ∈ bc_wd := bc_mem 307 (by rfl) (by decide +kernel)
set_option maxRecDepth 100000 in
theorem mw_308 : (Cond.fieldLink "BroadcastCarousel$History" (15 : Nat) "BroadcastCarousel$History" "next" "I") ∈ bc_wd := bc_mem 308 (by rfl) (by decide +kernel)
set_option maxRecDepth 100000 in
theorem mw_309 : (Cond.fieldLink "BroadcastCarousel$History" (20 : Nat) "BroadcastCarousel$History" "ring" "[LBroadcastCarousel$State;") ∈ bc_wd := bc_mem 309 (by rfl) (by decide +kernel)
set_option maxRecDepth 100000 in
theorem mw_325 : (Cond.fieldLink "BroadcastCarousel$Program" (9 : Nat) "BroadcastCarousel$Program" "cycle" "I") ∈ bc_wd := bc_mem 325 (by rfl) (by decide +kernel)
set_option maxRecDepth 100000 in
theorem mw_326 : (Cond.fieldLink "BroadcastCarousel$Tiers" (69 : Nat) "BroadcastCarousel$Program" "cycle" "I") ∈ bc_wd := bc_mem 326 (by rfl) (by decide +kernel)
set_option maxRecDepth 100000 in
theorem mw_327 : (Cond.fieldLink "BroadcastCarousel" (167 : Nat) "BroadcastCarousel$Program" "cycle" "I") ∈ bc_wd := bc_mem 327 (by rfl) (by decide +kernel)
set_option maxRecDepth 100000 in
theorem mw_328 : (Cond.fieldLink "BroadcastCarousel$Program" (15 : Nat) "BroadcastCarousel$Program" "dataSlots" "I") ∈ bc_wd := bc_mem 328 (by rfl) (by decide +kernel)
set_option maxRecDepth 100000 in
theorem mw_329 : (Cond.fieldLink "BroadcastCarousel" (195 : Nat) "BroadcastCarousel$Program" "dataSlots" "I") ∈ bc_wd := bc_mem 329 (by rfl) (by decide +kernel)
set_option maxRecDepth 100000 in
theorem mw_330 : (Cond.fieldLink "BroadcastCarousel$Program" (18 : Nat) "BroadcastCarousel$Program" "segments" "I") ∈ bc_wd := bc_mem 330 (by rfl) (by decide +kernel)
set_option maxRecDepth 100000 in
theorem mw_331 : (Cond.fieldLink "BroadcastCarousel$Program" (21 : Nat) "BroadcastCarousel$Program" "length" "I") ∈ bc_wd := bc_mem 331 (by rfl) (by decide +kernel)
set_option maxRecDepth 100000 in
theorem mw_332 : (Cond.fieldLink "BroadcastCarousel$Program" (24 : Nat) "BroadcastCarousel$Program" "starts" "[I") ∈ bc_wd := bc_mem 332 (by rfl) (by decide +kernel)
set_option maxRecDepth 100000 in
theorem mw_333 : (Cond.fieldLink "BroadcastCarousel$Program" (28 : Nat) "BroadcastCarousel$Program" "slots" "[I") ∈ bc_wd := bc_mem 333 (by rfl) (by decide +kernel)
set_option maxRecDepth 100000 in
theorem mw_334 : (Cond.fieldLink "BroadcastCarousel" (192 : Nat) "BroadcastCarousel$Program" "slots" "[I") ∈ bc_wd := bc_mem 334 (by rfl) (by decide +kernel)
set_option maxRecDepth 100000 in
theorem mw_335 : (Cond.fieldLink "BroadcastCarousel$Program" (33 : Nat) "BroadcastCarousel$Program" "times" "[[I") ∈ bc_wd := bc_mem 335 (by rfl) (by decide +kernel)
set_option maxRecDepth 100000 in
theorem mw_336 : (Cond.fieldLink "BroadcastCarousel$Program" (36 : Nat) "BroadcastCarousel$Program" "rounds" "I") ∈ bc_wd := bc_mem 336 (by rfl) (by decide +kernel)
set_option maxRecDepth 100000 in
theorem mw_337 : (Cond.fieldLink "BroadcastCarousel$Program" (39 : Nat) "BroadcastCarousel$Program" "roundLength" "I") ∈ bc_wd := bc_mem 337 (by rfl) (by decide +kernel)
set_option maxRecDepth 100000 in
theorem mw_338 : (Cond.fieldLink "BroadcastCarousel$Program" (42 : Nat) "BroadcastCarousel$Program" "members" "[I") ∈ bc_wd := bc_mem 338 (by rfl) (by decide +kernel)
set_option maxRecDepth 100000 in
theorem mw_339 : (Cond.fieldLink "BroadcastCarousel$Program" (45 : Nat) "BroadcastCarousel$Program" "chunk" "[I") ∈ bc_wd := bc_mem 339 (by rfl) (by decide +kernel)
set_option maxRecDepth 100000 in
theorem mw_340 : (Cond.fieldLink "BroadcastCarousel$Program" (48 : Nat) "BroadcastCarousel$Program" "offset" "[I") ∈ bc_wd := bc_mem 340 (by rfl) (by decide +kernel)
set_option maxRecDepth 100000 in
theorem mw_376 : (Cond.fieldLink "BroadcastCarousel$Tiers" (9 : Nat) "BroadcastCarousel$Tiers" "items" "[I") ∈ bc_wd := bc_mem 376 (by rfl) (by decide +kernel)
set_option maxRecDepth 100000 in
theorem mw_377 : (Cond.fieldLink "BroadcastCarousel" (250 : Nat) "BroadcastCarousel$Tiers" "items" "[I") ∈ bc_wd := bc_mem 377 (by rfl) (by decide +kernel)
set_option maxRecDepth 100000 in
theorem mw_378 : (Cond.fieldLink "BroadcastCarousel$Tiers" (15 : Nat) "BroadcastCarousel$Tiers" "disks" "[I") ∈ bc_wd := bc_mem 378 (by rfl) (by decide +kernel)
set_option maxRecDepth 100000 in
theorem mw_379 : (Cond.fieldLink "BroadcastCarousel" (252 : Nat) "BroadcastCarousel$Tiers" "disks" "[I") ∈ bc_wd := bc_mem 379 (by rfl) (by decide +kernel)
set_option maxRecDepth 100000 in
theorem mw_380 : (Cond.fieldLink "BroadcastCarousel$Tiers" (18 : Nat) "BroadcastCarousel$Tiers" "bestSizes" "[I") ∈ bc_wd := bc_mem 380 (by rfl) (by decide +kernel)
set_option maxRecDepth 100000 in
theorem mw_381 : (Cond.fieldLink "BroadcastCarousel" (254 : Nat) "BroadcastCarousel$Tiers" "bestSizes" "[I") ∈ bc_wd := bc_mem 381 (by rfl) (by decide +kernel)
set_option maxRecDepth 100000 in
theorem mw_382 : (Cond.fieldLink "BroadcastCarousel$Tiers" (21 : Nat) "BroadcastCarousel$Tiers" "bestWeight" "J") ∈ bc_wd := bc_mem 382 (by rfl) (by decide +kernel)
set_option maxRecDepth 100000 in
theorem mw_383 : (Cond.fieldLink "BroadcastCarousel" (259 : Nat) "BroadcastCarousel$Tiers" "bestWeight" "J") ∈ bc_wd := bc_mem 383 (by rfl) (by decide +kernel)
set_option maxRecDepth 100000 in
theorem mw_384 : (Cond.fieldLink "BroadcastCarousel$Tiers" (25 : Nat) "BroadcastCarousel$Tiers" "bestCycle" "I") ∈ bc_wd := bc_mem 384 (by rfl) (by decide +kernel)
set_option maxRecDepth 100000 in
theorem mw_385 : (Cond.fieldLink "BroadcastCarousel$Tiers" (29 : Nat) "BroadcastCarousel$Tiers" "sizes" "[I") ∈ bc_wd := bc_mem 385 (by rfl) (by decide +kernel)
set_option maxRecDepth 100000 in
theorem mw_407 : (Cond.fieldLink "BroadcastCarousel$Plan" (9 : Nat) "BroadcastCarousel$Plan" "bestTime" "I") ∈ bc_wd := bc_mem 407 (by rfl) (by decide +kernel)
set_option maxRecDepth 100000 in
theorem mw_408 : (Cond.fieldLink "BroadcastCarousel" (322 : Nat) "BroadcastCarousel$Plan" "bestTime" "I") ∈ bc_wd := bc_mem 408 (by rfl) (by decide +kernel)
set_option maxRecDepth 100000 in
theorem mw_409 : (Cond.fieldLink "BroadcastCarousel$Plan" (15 : Nat) "BroadcastCarousel$Plan" "best" "[I") ∈ bc_wd := bc_mem 409 (by rfl) (by decide +kernel)
set_option maxRecDepth 100000 in
theorem mw_410 : (Cond.fieldLink "BroadcastCarousel" (328 : Nat) "BroadcastCarousel$Plan" "best" "[I") ∈ bc_wd := bc_mem 410 (by rfl) (by decide +kernel)
set_option maxRecDepth 100000 in
theorem mw_411 : (Cond.fieldLink "BroadcastCarousel$Plan" (19 : Nat) "BroadcastCarousel$Plan" "count" "I") ∈ bc_wd := bc_mem 411 (by rfl) (by decide +kernel)
set_option maxRecDepth 100000 in
theorem mw_412 : (Cond.fieldLink "BroadcastCarousel$Plan" (22 : Nat) "BroadcastCarousel$Plan" "order" "[I") ∈ bc_wd := bc_mem 412 (by rfl) (by decide +kernel)
set_option maxRecDepth 100000 in
theorem mw_413 : (Cond.fieldLink "BroadcastCarousel$Plan" (28 : Nat) "BroadcastCarousel$Plan" "scratch" "LBroadcastCarousel$Client;") ∈ bc_wd := bc_mem 413 (by rfl) (by decide +kernel)
set_option maxRecDepth 100000 in
theorem mw_425 : (Cond.fieldLink "BroadcastCarousel" (9 : Nat) "BroadcastCarousel" "text" "[B") ∈ bc_wd := bc_mem 425 (by rfl) (by decide +kernel)
set_option maxRecDepth 100000 in
theorem mw_426 : (Cond.fieldLink "BroadcastCarousel" (13 : Nat) "BroadcastCarousel" "textLength" "I") ∈ bc_wd := bc_mem 426 (by rfl) (by decide +kernel)
set_option maxRecDepth 100000 in
theorem mw_427 : (Cond.fieldLink "BroadcastCarousel" (17 : Nat) "BroadcastCarousel" "wrongAt" "I") ∈ bc_wd := bc_mem 427 (by rfl) (by decide +kernel)
set_option maxRecDepth 100000 in
theorem mw_428 : (Cond.fieldLink "BroadcastCarousel" (20 : Nat) "BroadcastCarousel" "loaded" "Z") ∈ bc_wd := bc_mem 428 (by rfl) (by decide +kernel)
set_option maxRecDepth 100000 in
theorem mw_429 : (Cond.fieldLink "BroadcastCarousel" (27 : Nat) "BroadcastCarousel" "parser" "LBroadcastCarousel$Parser;") ∈ bc_wd := bc_mem 429 (by rfl) (by decide +kernel)
set_option maxRecDepth 100000 in
theorem mw_430 : (Cond.fieldLink "BroadcastCarousel" (34 : Nat) "BroadcastCarousel" "draft" "LBroadcastCarousel$State;") ∈ bc_wd := bc_mem 430 (by rfl) (by decide +kernel)
set_option maxRecDepth 100000 in
theorem mw_431 : (Cond.fieldLink "BroadcastCarousel" (38 : Nat) "BroadcastCarousel" "now" "LBroadcastCarousel$State;") ∈ bc_wd := bc_mem 431 (by rfl) (by decide +kernel)
set_option maxRecDepth 100000 in
theorem mw_432 : (Cond.fieldLink "BroadcastCarousel" (44 : Nat) "BroadcastCarousel" "history" "LBroadcastCarousel$History;") ∈ bc_wd := bc_mem 432 (by rfl) (by decide +kernel)
set_option maxRecDepth 100000 in
theorem mw_433 : (Cond.fieldLink "BroadcastCarousel" (51 : Nat) "BroadcastCarousel" "program" "LBroadcastCarousel$Program;") ∈ bc_wd := bc_mem 433 (by rfl) (by decide +kernel)
set_option maxRecDepth 100000 in
theorem mw_434 : (Cond.fieldLink "BroadcastCarousel" (58 : Nat) "BroadcastCarousel" "trial" "LBroadcastCarousel$Settings;") ∈ bc_wd := bc_mem 434 (by rfl) (by decide +kernel)
set_option maxRecDepth 100000 in
theorem mw_435 : (Cond.fieldLink "BroadcastCarousel" (62 : Nat) "BroadcastCarousel" "trialProgram" "LBroadcastCarousel$Program;") ∈ bc_wd := bc_mem 435 (by rfl) (by decide +kernel)
set_option maxRecDepth 100000 in
theorem mw_436 : (Cond.fieldLink "BroadcastCarousel" (68 : Nat) "BroadcastCarousel" "trialClient" "LBroadcastCarousel$Client;") ∈ bc_wd := bc_mem 436 (by rfl) (by decide +kernel)
set_option maxRecDepth 100000 in
theorem mw_437 : (Cond.fieldLink "BroadcastCarousel" (75 : Nat) "BroadcastCarousel" "tiers" "LBroadcastCarousel$Tiers;") ∈ bc_wd := bc_mem 437 (by rfl) (by decide +kernel)
set_option maxRecDepth 100000 in
theorem mw_438 : (Cond.fieldLink "BroadcastCarousel" (82 : Nat) "BroadcastCarousel" "plan" "LBroadcastCarousel$Plan;") ∈ bc_wd := bc_mem 438 (by rfl) (by decide +kernel)
set_option maxRecDepth 100000 in
theorem mw_1352 : (Cond.fieldLink "BroadcastCarouselModel" (7 : Nat) "BroadcastCarouselModel" "row" "[I") ∈ bc_wd := bc_mem 1352 (by rfl) (by decide +kernel)
set_option maxRecDepth 100000 in
theorem mw_1353 : (Cond.fieldLink "BroadcastCarouselModel" (13 : Nat) "BroadcastCarouselModel" "past" "[I") ∈ bc_wd := bc_mem 1353 (by rfl) (by decide +kernel)
set_option maxRecDepth 100000 in
theorem mw_1354 : (Cond.fieldLink "BroadcastCarouselModel" (198 : Nat) "BroadcastCarouselModel" "actions" "I") ∈ bc_wd := bc_mem 1354 (by rfl) (by decide +kernel)
set_option maxRecDepth 100000 in
theorem mw_1355 : (Cond.fieldLink "BroadcastCarouselModel" (68 : Nat) "BroadcastCarouselModel" "isLoaded" "Z") ∈ bc_wd := bc_mem 1355 (by rfl) (by decide +kernel)
set_option maxRecDepth 100000 in
theorem mw_1356 : (Cond.fieldLink "BroadcastCarouselModel" (65 : Nat) "BroadcastCarouselModel" "thrown" "I") ∈ bc_wd := bc_mem 1356 (by rfl) (by decide +kernel)
set_option maxRecDepth 100000 in
theorem mw_1357 : (Cond.fieldLink "BroadcastCarouselModel" (72 : Nat) "BroadcastCarouselModel" "disks" "I") ∈ bc_wd := bc_mem 1357 (by rfl) (by decide +kernel)
set_option maxRecDepth 100000 in
theorem mw_1358 : (Cond.fieldLink "BroadcastCarouselModel" (79 : Nat) "BroadcastCarouselModel" "items" "I") ∈ bc_wd := bc_mem 1358 (by rfl) (by decide +kernel)
set_option maxRecDepth 100000 in
theorem mw_1359 : (Cond.fieldLink "BroadcastCarouselModel" (82 : Nat) "BroadcastCarouselModel" "clients" "I") ∈ bc_wd := bc_mem 1359 (by rfl) (by decide +kernel)
set_option maxRecDepth 100000 in
theorem mw_1360 : (Cond.fieldLink "BroadcastCarouselModel" (16 : Nat) "BroadcastCarouselModel" "capacity" "[I") ∈ bc_wd := bc_mem 1360 (by rfl) (by decide +kernel)
set_option maxRecDepth 100000 in
theorem mw_1361 : (Cond.fieldLink "BroadcastCarouselModel" (19 : Nat) "BroadcastCarouselModel" "policy" "[I") ∈ bc_wd := bc_mem 1361 (by rfl) (by decide +kernel)
set_option maxRecDepth 100000 in
theorem mw_1362 : (Cond.fieldLink "BroadcastCarouselModel" (22 : Nat) "BroadcastCarouselModel" "buffer" "[I") ∈ bc_wd := bc_mem 1362 (by rfl) (by decide +kernel)
set_option maxRecDepth 100000 in
theorem mw_1363 : (Cond.fieldLink "BroadcastCarouselModel" (85 : Nat) "BroadcastCarouselModel" "buffered" "I") ∈ bc_wd := bc_mem 1363 (by rfl) (by decide +kernel)
set_option maxRecDepth 100000 in
theorem mw_1364 : (Cond.fieldLink "BroadcastCarouselModel" (92 : Nat) "BroadcastCarouselModel" "textSize" "I") ∈ bc_wd := bc_mem 1364 (by rfl) (by decide +kernel)
set_option maxRecDepth 100000 in
theorem mw_1365 : (Cond.fieldLink "BroadcastCarouselModel" (114 : Nat) "BroadcastCarouselModel" "at" "I") ∈ bc_wd := bc_mem 1365 (by rfl) (by decide +kernel)
set_option maxRecDepth 100000 in
theorem mw_1366 : (Cond.fieldLink "BroadcastCarouselModel" (117 : Nat) "BroadcastCarouselModel" "start" "I") ∈ bc_wd := bc_mem 1366 (by rfl) (by decide +kernel)
set_option maxRecDepth 100000 in
theorem mw_1367 : (Cond.fieldLink "BroadcastCarouselModel" (120 : Nat) "BroadcastCarouselModel" "token" "I") ∈ bc_wd := bc_mem 1367 (by rfl) (by decide +kernel)
set_option maxRecDepth 100000 in
theorem mw_1368 : (Cond.fieldLink "BroadcastCarouselModel" (130 : Nat) "BroadcastCarouselModel" "number" "I") ∈ bc_wd := bc_mem 1368 (by rfl) (by decide +kernel)
set_option maxRecDepth 100000 in
theorem mw_1369 : (Cond.fieldLink "BroadcastCarouselModel" (107 : Nat) "BroadcastCarouselModel" "errorCode" "I") ∈ bc_wd := bc_mem 1369 (by rfl) (by decide +kernel)
set_option maxRecDepth 100000 in
theorem mw_1370 : (Cond.fieldLink "BroadcastCarouselModel" (25 : Nat) "BroadcastCarouselModel" "errorAt" "I") ∈ bc_wd := bc_mem 1370 (by rfl) (by decide +kernel)
set_option maxRecDepth 100000 in
theorem mw_1371 : (Cond.fieldLink "BroadcastCarouselModel" (29 : Nat) "BroadcastCarouselModel" "draft" "[I") ∈ bc_wd := bc_mem 1371 (by rfl) (by decide +kernel)
set_option maxRecDepth 100000 in
theorem mw_1372 : (Cond.fieldLink "BroadcastCarouselModel" (162 : Nat) "BroadcastCarouselModel" "draftDisks" "I") ∈ bc_wd := bc_mem 1372 (by rfl) (by decide +kernel)
set_option maxRecDepth 100000 in
theorem mw_1373 : (Cond.fieldLink "BroadcastCarouselModel" (167 : Nat) "BroadcastCarouselModel" "draftItems" "I") ∈ bc_wd := bc_mem 1373 (by rfl) (by decide +kernel)
set_option maxRecDepth 100000 in
theorem mw_1374 : (Cond.fieldLink "BroadcastCarouselModel" (172 : Nat) "BroadcastCarouselModel" "draftClients" "I") ∈ bc_wd := bc_mem 1374 (by rfl) (by decide +kernel)
set_option maxRecDepth 100000 in
theorem mw_1375 : (Cond.fieldLink "BroadcastCarouselModel" (32 : Nat) "BroadcastCarouselModel" "aside" "[I") ∈ bc_wd := bc_mem 1375 (by rfl) (by decide +kernel)
set_option maxRecDepth 100000 in
theorem mw_1376 : (Cond.fieldLink "BroadcastCarouselModel" (35 : Nat) "BroadcastCarouselModel" "data" "[I") ∈ bc_wd := bc_mem 1376 (by rfl) (by decide +kernel)
set_option maxRecDepth 100000 in
theorem mw_1377 : (Cond.fieldLink "BroadcastCarouselModel" (218 : Nat) "BroadcastCarouselModel" "dataSize" "I") ∈ bc_wd := bc_mem 1377 (by rfl) (by decide +kernel)
set_option maxRecDepth 100000 in
theorem mw_1378 : (Cond.fieldLink "BroadcastCarouselModel" (38 : Nat) "BroadcastCarouselModel" "program" "[I") ∈ bc_wd := bc_mem 1378 (by rfl) (by decide +kernel)
set_option maxRecDepth 100000 in
theorem mw_1379 : (Cond.fieldLink "BroadcastCarouselModel" (231 : Nat) "BroadcastCarouselModel" "length" "I") ∈ bc_wd := bc_mem 1379 (by rfl) (by decide +kernel)
set_option maxRecDepth 100000 in
theorem mw_1380 : (Cond.fieldLink "BroadcastCarouselModel" (41 : Nat) "BroadcastCarouselModel" "far" "[I") ∈ bc_wd := bc_mem 1380 (by rfl) (by decide +kernel)
set_option maxRecDepth 100000 in
theorem mw_1381 : (Cond.fieldLink "BroadcastCarouselModel" (44 : Nat) "BroadcastCarouselModel" "farSegment" "[I") ∈ bc_wd := bc_mem 1381 (by rfl) (by decide +kernel)
set_option maxRecDepth 100000 in
theorem mw_1382 : (Cond.fieldLink "BroadcastCarouselModel" (264 : Nat) "BroadcastCarouselModel" "removed" "I") ∈ bc_wd := bc_mem 1382 (by rfl) (by decide +kernel)
set_option maxRecDepth 100000 in
theorem mw_1383 : (Cond.fieldLink "BroadcastCarouselModel" (47 : Nat) "BroadcastCarouselModel" "order" "[I") ∈ bc_wd := bc_mem 1383 (by rfl) (by decide +kernel)
set_option maxRecDepth 100000 in
theorem mw_1384 : (Cond.fieldLink "BroadcastCarouselModel" (50 : Nat) "BroadcastCarouselModel" "sizes" "[I") ∈ bc_wd := bc_mem 1384 (by rfl) (by decide +kernel)
set_option maxRecDepth 100000 in
theorem mw_1385 : (Cond.fieldLink "BroadcastCarouselModel" (53 : Nat) "BroadcastCarouselModel" "bestSizes" "[I") ∈ bc_wd := bc_mem 1385 (by rfl) (by decide +kernel)
set_option maxRecDepth 100000 in
theorem mw_1386 : (Cond.fieldLink "BroadcastCarouselModel" (331 : Nat) "BroadcastCarouselModel" "bestWeight" "J") ∈ bc_wd := bc_mem 1386 (by rfl) (by decide +kernel)
set_option maxRecDepth 100000 in
theorem mw_1387 : (Cond.fieldLink "BroadcastCarouselModel" (328 : Nat) "BroadcastCarouselModel" "bestLength" "I") ∈ bc_wd := bc_mem 1387 (by rfl) (by decide +kernel)
set_option maxRecDepth 100000 in
theorem mw_1388 : (Cond.fieldLink "BroadcastCarouselModel" (325 : Nat) "BroadcastCarouselModel" "isDivided" "Z") ∈ bc_wd := bc_mem 1388 (by rfl) (by decide +kernel)
set_option maxRecDepth 100000 in
theorem mw_1389 : (Cond.fieldLink "BroadcastCarouselModel" (56 : Nat) "BroadcastCarouselModel" "waiting" "[I") ∈ bc_wd := bc_mem 1389 (by rfl) (by decide +kernel)
set_option maxRecDepth 100000 in
theorem mw_1390 : (Cond.fieldLink "BroadcastCarouselModel" (59 : Nat) "BroadcastCarouselModel" "tried" "[I") ∈ bc_wd := bc_mem 1390 (by rfl) (by decide +kernel)
set_option maxRecDepth 100000 in
theorem mw_1391 : (Cond.fieldLink "BroadcastCarouselModel" (62 : Nat) "BroadcastCarouselModel" "plan" "[I") ∈ bc_wd := bc_mem 1391 (by rfl) (by decide +kernel)
set_option maxRecDepth 100000 in
theorem mw_1392 : (Cond.fieldLink "BroadcastCarouselModel" (374 : Nat) "BroadcastCarouselModel" "planEnd" "I") ∈ bc_wd := bc_mem 1392 (by rfl) (by decide +kernel)
set_option maxRecDepth 100000 in
theorem mw_1393 : (Cond.fieldLink "BroadcastCarouselModel" (371 : Nat) "BroadcastCarouselModel" "isPlanned" "Z") ∈ bc_wd := bc_mem 1393 (by rfl) (by decide +kernel)
set_option maxRecDepth 100000 in
theorem mw_472 : (Cond.methodLink "BroadcastCarousel" (101 : Nat) ({ cls := "BroadcastCarousel$Parser", name := "read", desc := "([BILBroadcastCarousel$State;)I" } : MethodName)) ∈ bc_wd := bc_mem 472 (by rfl) (by decide +kernel)
set_option maxRecDepth 100000 in
theorem mw_473 : (Cond.instanceMethod ({ cls := "BroadcastCarousel$Parser", name := "read", desc := "([BILBroadcastCarousel$State;)I" } : MethodName)) ∈ bc_wd := bc_mem 473 (by rfl) (by decide +kernel)
set_option maxRecDepth 100000 in
theorem mw_474 : (Cond.selects "BroadcastCarousel$Parser" ({ cls := "BroadcastCarousel$Parser", name := "read", desc := "([BILBroadcastCarousel$State;)I" } : MethodName) ({ cls := "BroadcastCarousel$Parser", name := "read", desc := "([BILBroadcastCarousel$State;)I" } : MethodName)) ∈ bc_wd := bc_mem 474 (by rfl) (by decide +kernel)
set_option maxRecDepth 100000 in
theorem mw_106 : (Cond.initialized "BroadcastCarousel$Parser") ∈ bc_wd := bc_mem 106 (by rfl) (by decide +kernel)
set_option maxRecDepth 100000 in
theorem mw_475 : (Cond.code ({ cls := "BroadcastCarousel$Parser", name := "read", desc := "([BILBroadcastCarousel$State;)I" } : MethodName) prog_4_method_2_code (4 : Nat) (Option.some ClassFile.FieldType.int)) ∈ bc_wd := bc_mem 475 (by rfl) (by decide +kernel)
set_option maxRecDepth 100000 in
theorem mw_477 : (Cond.static ({ cls := "java/lang/Math", name := "min", desc := "(II)I" } : MethodName)) ∈ bc_wd := bc_mem 477 (by rfl) (by decide +kernel)
set_option maxRecDepth 100000 in
theorem mw_120 : (Cond.initialized "java/lang/Math") ∈ bc_wd := bc_mem 120 (by rfl) (by decide +kernel)
set_option maxRecDepth 100000 in
theorem mw_478 : (Cond.code ({ cls := "java/lang/Math", name := "min", desc := "(II)I" } : MethodName) prog_19_method_69_code (2 : Nat) (Option.some ClassFile.FieldType.int)) ∈ bc_wd := bc_mem 478 (by rfl) (by decide +kernel)
set_option maxRecDepth 100000 in
theorem mw_476 : (Cond.methodLink "BroadcastCarousel$Parser" (34 : Nat) ({ cls := "java/lang/Math", name := "min", desc := "(II)I" } : MethodName)) ∈ bc_wd := bc_mem 476 (by rfl) (by decide +kernel)
set_option maxRecDepth 100000 in
theorem mw_479 : (Cond.methodLink "BroadcastCarousel$Parser" (40 : Nat) ({ cls := "BroadcastCarousel$State", name := "clear", desc := "()V" } : MethodName)) ∈ bc_wd := bc_mem 479 (by rfl) (by decide +kernel)
set_option maxRecDepth 100000 in
theorem mw_480 : (Cond.instanceMethod ({ cls := "BroadcastCarousel$State", name := "clear", desc := "()V" } : MethodName)) ∈ bc_wd := bc_mem 480 (by rfl) (by decide +kernel)
set_option maxRecDepth 100000 in
theorem mw_481 : (Cond.selects "BroadcastCarousel$State" ({ cls := "BroadcastCarousel$State", name := "clear", desc := "()V" } : MethodName) ({ cls := "BroadcastCarousel$State", name := "clear", desc := "()V" } : MethodName)) ∈ bc_wd := bc_mem 481 (by rfl) (by decide +kernel)
set_option maxRecDepth 100000 in
theorem mw_107 : (Cond.initialized "BroadcastCarousel$State") ∈ bc_wd := bc_mem 107 (by rfl) (by decide +kernel)
set_option maxRecDepth 100000 in
theorem mw_482 : (Cond.code ({ cls := "BroadcastCarousel$State", name := "clear", desc := "()V" } : MethodName) prog_8_method_2_code (1 : Nat) (Option.none : Option ClassFile.FieldType)) ∈ bc_wd := bc_mem 482 (by rfl) (by decide +kernel)
set_option maxRecDepth 100000 in
theorem mw_483 : (Cond.methodLink "BroadcastCarousel$Parser" (45 : Nat) ({ cls := "BroadcastCarousel$Parser", name := "advance", desc := "()V" } : MethodName)) ∈ bc_wd := bc_mem 483 (by rfl) (by decide +kernel)
set_option maxRecDepth 100000 in
theorem mw_485 : (Cond.instanceMethod ({ cls := "BroadcastCarousel$Parser", name := "advance", desc := "()V" } : MethodName)) ∈ bc_wd := bc_mem 485 (by rfl) (by decide +kernel)
theorem mw_0 : (Cond.selects "BroadcastCarousel$Parser" ({ cls := "BroadcastCarousel$Parser", name := "advance", desc := "()V" } : MethodName) ({ cls := "BroadcastCarousel$Parser", name := "advance", desc := "()V" } : MethodName)) ∈ bc_wd := bc_mem 0 (by rfl) (by decide +kernel)
set_option maxRecDepth 100000 in
theorem mw_486 : (Cond.code ({ cls := "BroadcastCarousel$Parser", name := "advance", desc := "()V" } : MethodName) prog_4_method_14_code (2 : Nat) (Option.none : Option ClassFile.FieldType)) ∈ bc_wd := bc_mem 486 (by rfl) (by decide +kernel)
set_option maxRecDepth 100000 in
theorem mw_487 : (Cond.methodLink "BroadcastCarousel$Parser" (126 : Nat) ({ cls := "BroadcastCarousel$Parser", name := "byteAt", desc := "(I)I" } : MethodName)) ∈ bc_wd := bc_mem 487 (by rfl) (by decide +kernel)
set_option maxRecDepth 100000 in
theorem mw_489 : (Cond.instanceMethod ({ cls := "BroadcastCarousel$Parser", name := "byteAt", desc := "(I)I" } : MethodName)) ∈ bc_wd := bc_mem 489 (by rfl) (by decide +kernel)
theorem mw_1 : (Cond.selects "BroadcastCarousel$Parser" ({ cls := "BroadcastCarousel$Parser", name := "byteAt", desc := "(I)I" } : MethodName) ({ cls := "BroadcastCarousel$Parser", name := "byteAt", desc := "(I)I" } : MethodName)) ∈ bc_wd := bc_mem 1 (by rfl) (by decide +kernel)
set_option maxRecDepth 100000 in
theorem mw_490 : (Cond.code ({ cls := "BroadcastCarousel$Parser", name := "byteAt", desc := "(I)I" } : MethodName) prog_4_method_13_code (2 : Nat) (Option.some ClassFile.FieldType.int)) ∈ bc_wd := bc_mem 490 (by rfl) (by decide +kernel)
set_option maxRecDepth 100000 in
theorem mw_492 : (Cond.static ({ cls := "BroadcastCarousel$Parser", name := "isBlank", desc := "(I)Z" } : MethodName)) ∈ bc_wd := bc_mem 492 (by rfl) (by decide +kernel)
set_option maxRecDepth 100000 in
theorem mw_493 : (Cond.code ({ cls := "BroadcastCarousel$Parser", name := "isBlank", desc := "(I)Z" } : MethodName) prog_4_method_17_code (1 : Nat) (Option.some ClassFile.FieldType.boolean)) ∈ bc_wd := bc_mem 493 (by rfl) (by decide +kernel)
set_option maxRecDepth 100000 in
theorem mw_491 : (Cond.methodLink "BroadcastCarousel$Parser" (134 : Nat) ({ cls := "BroadcastCarousel$Parser", name := "isBlank", desc := "(I)Z" } : MethodName)) ∈ bc_wd := bc_mem 491 (by rfl) (by decide +kernel)
set_option maxRecDepth 100000 in
theorem mw_495 : (Cond.static ({ cls := "BroadcastCarousel$Parser", name := "isLetter", desc := "(I)Z" } : MethodName)) ∈ bc_wd := bc_mem 495 (by rfl) (by decide +kernel)
set_option maxRecDepth 100000 in
theorem mw_496 : (Cond.code ({ cls := "BroadcastCarousel$Parser", name := "isLetter", desc := "(I)Z" } : MethodName) prog_4_method_18_code (1 : Nat) (Option.some ClassFile.FieldType.boolean)) ∈ bc_wd := bc_mem 496 (by rfl) (by decide +kernel)
set_option maxRecDepth 100000 in
theorem mw_494 : (Cond.methodLink "BroadcastCarousel$Parser" (138 : Nat) ({ cls := "BroadcastCarousel$Parser", name := "isLetter", desc := "(I)Z" } : MethodName)) ∈ bc_wd := bc_mem 494 (by rfl) (by decide +kernel)
set_option maxRecDepth 100000 in
theorem mw_497 : (Cond.methodLink "BroadcastCarousel$Parser" (141 : Nat) ({ cls := "BroadcastCarousel$Parser", name := "readWord", desc := "()V" } : MethodName)) ∈ bc_wd := bc_mem 497 (by rfl) (by decide +kernel)
set_option maxRecDepth 100000 in
theorem mw_499 : (Cond.instanceMethod ({ cls := "BroadcastCarousel$Parser", name := "readWord", desc := "()V" } : MethodName)) ∈ bc_wd := bc_mem 499 (by rfl) (by decide +kernel)
theorem mw_2 : (Cond.selects "BroadcastCarousel$Parser" ({ cls := "BroadcastCarousel$Parser", name := "readWord", desc := "()V" } : MethodName) ({ cls := "BroadcastCarousel$Parser", name := "readWord", desc := "()V" } : MethodName)) ∈ bc_wd := bc_mem 2 (by rfl) (by decide +kernel)
set_option maxRecDepth 100000 in
theorem mw_500 : (Cond.code ({ cls := "BroadcastCarousel$Parser", name := "readWord", desc := "()V" } : MethodName) prog_4_method_15_code (1 : Nat) (Option.none : Option ClassFile.FieldType)) ∈ bc_wd := bc_mem 500 (by rfl) (by decide +kernel)
set_option maxRecDepth 100000 in
theorem mw_502 : (Cond.static ({ cls := "BroadcastCarousel$Parser", name := "isDigit", desc := "(I)Z" } : MethodName)) ∈ bc_wd := bc_mem 502 (by rfl) (by decide +kernel)
set_option maxRecDepth 100000 in
theorem mw_503 : (Cond.code ({ cls := "BroadcastCarousel$Parser", name := "isDigit", desc := "(I)Z" } : MethodName) prog_4_method_19_code (1 : Nat) (Option.some ClassFile.FieldType.boolean)) ∈ bc_wd := bc_mem 503 (by rfl) (by decide +kernel)
set_option maxRecDepth 100000 in
theorem mw_501 : (Cond.methodLink "BroadcastCarousel$Parser" (144 : Nat) ({ cls := "BroadcastCarousel$Parser", name := "isDigit", desc := "(I)Z" } : MethodName)) ∈ bc_wd := bc_mem 501 (by rfl) (by decide +kernel)
set_option maxRecDepth 100000 in
theorem mw_504 : (Cond.methodLink "BroadcastCarousel$Parser" (147 : Nat) ({ cls := "BroadcastCarousel$Parser", name := "readNumber", desc := "()V" } : MethodName)) ∈ bc_wd := bc_mem 504 (by rfl) (by decide +kernel)
set_option maxRecDepth 100000 in
theorem mw_506 : (Cond.instanceMethod ({ cls := "BroadcastCarousel$Parser", name := "readNumber", desc := "()V" } : MethodName)) ∈ bc_wd := bc_mem 506 (by rfl) (by decide +kernel)
theorem mw_3 : (Cond.selects "BroadcastCarousel$Parser" ({ cls := "BroadcastCarousel$Parser", name := "readNumber", desc := "()V" } : MethodName) ({ cls := "BroadcastCarousel$Parser", name := "readNumber", desc := "()V" } : MethodName)) ∈ bc_wd := bc_mem 3 (by rfl) (by decide +kernel)
set_option maxRecDepth 100000 in
theorem mw_507 : (Cond.code ({ cls := "BroadcastCarousel$Parser", name := "readNumber", desc := "()V" } : MethodName) prog_4_method_16_code (1 : Nat) (Option.none : Option ClassFile.FieldType)) ∈ bc_wd := bc_mem 507 (by rfl) (by decide +kernel)
set_option maxRecDepth 100000 in
theorem mw_508 : (Cond.methodLink "BroadcastCarousel$Parser" (52 : Nat) ({ cls := "BroadcastCarousel$Parser", name := "readIndex", desc := "(LBroadcastCarousel$Settings;)V" } : MethodName)) ∈ bc_wd := bc_mem 508 (by rfl) (by decide +kernel)
set_option maxRecDepth 100000 in
theorem mw_510 : (Cond.instanceMethod ({ cls := "BroadcastCarousel$Parser", name := "readIndex", desc := "(LBroadcastCarousel$Settings;)V" } : MethodName)) ∈ bc_wd := bc_mem 510 (by rfl) (by decide +kernel)
theorem mw_4 : (Cond.selects "BroadcastCarousel$Parser" ({ cls := "BroadcastCarousel$Parser", name := "readIndex", desc := "(LBroadcastCarousel$Settings;)V" } : MethodName) ({ cls := "BroadcastCarousel$Parser", name := "readIndex", desc := "(LBroadcastCarousel$Settings;)V" } : MethodName)) ∈ bc_wd := bc_mem 4 (by rfl) (by decide +kernel)
set_option maxRecDepth 100000 in
theorem mw_511 : (Cond.code ({ cls := "BroadcastCarousel$Parser", name := "readIndex", desc := "(LBroadcastCarousel$Settings;)V" } : MethodName) prog_4_method_3_code (2 : Nat) (Option.none : Option ClassFile.FieldType)) ∈ bc_wd := bc_mem 511 (by rfl) (by decide +kernel)
set_option maxRecDepth 100000 in
theorem mw_513 : (Cond.methodLink "BroadcastCarousel$Parser" (72 : Nat) ({ cls := "BroadcastCarousel$Parser", name := "begins", desc := "(Ljava/lang/String;III)Z" } : MethodName)) ∈ bc_wd := bc_mem 513 (by rfl) (by decide +kernel)
set_option maxRecDepth 100000 in
theorem mw_515 : (Cond.instanceMethod ({ cls := "BroadcastCarousel$Parser", name := "begins", desc := "(Ljava/lang/String;III)Z" } : MethodName)) ∈ bc_wd := bc_mem 515 (by rfl) (by decide +kernel)
theorem mw_5 : (Cond.selects "BroadcastCarousel$Parser" ({ cls := "BroadcastCarousel$Parser", name := "begins", desc := "(Ljava/lang/String;III)Z" } : MethodName) ({ cls := "BroadcastCarousel$Parser", name := "begins", desc := "(Ljava/lang/String;III)Z" } : MethodName)) ∈ bc_wd := bc_mem 5 (by rfl) (by decide +kernel)
set_option maxRecDepth 100000 in
theorem mw_516 : (Cond.code ({ cls := "BroadcastCarousel$Parser", name := "begins", desc := "(Ljava/lang/String;III)Z" } : MethodName) prog_4_method_7_code (5 : Nat) (Option.some ClassFile.FieldType.boolean)) ∈ bc_wd := bc_mem 516 (by rfl) (by decide +kernel)
set_option maxRecDepth 100000 in
theorem mw_517 : (Cond.methodLink "BroadcastCarousel$Parser" (112 : Nat) ({ cls := "BroadcastCarousel$Parser", name := "isWord", desc := "(Ljava/lang/String;)Z" } : MethodName)) ∈ bc_wd := bc_mem 517 (by rfl) (by decide +kernel)
set_option maxRecDepth 100000 in
theorem mw_519 : (Cond.instanceMethod ({ cls := "BroadcastCarousel$Parser", name := "isWord", desc := "(Ljava/lang/String;)Z" } : MethodName)) ∈ bc_wd := bc_mem 519 (by rfl) (by decide +kernel)
theorem mw_6 : (Cond.selects "BroadcastCarousel$Parser" ({ cls := "BroadcastCarousel$Parser", name := "isWord", desc := "(Ljava/lang/String;)Z" } : MethodName) ({ cls := "BroadcastCarousel$Parser", name := "isWord", desc := "(Ljava/lang/String;)Z" } : MethodName)) ∈ bc_wd := bc_mem 6 (by rfl) (by decide +kernel)
set_option maxRecDepth 100000 in
theorem mw_520 : (Cond.code ({ cls := "BroadcastCarousel$Parser", name := "isWord", desc := "(Ljava/lang/String;)Z" } : MethodName) prog_4_method_12_code (3 : Nat) (Option.some ClassFile.FieldType.boolean)) ∈ bc_wd := bc_mem 520 (by rfl) (by decide +kernel)
set_option maxRecDepth 100000 in
theorem mw_569 : (Cond.methodLink "BroadcastCarousel$Parser" (66 : Nat) ({ cls := "BroadcastCarousel$Parser", name := "fail", desc := "(I)V" } : MethodName)) ∈ bc_wd := bc_mem 569 (by rfl) (by decide +kernel)
set_option maxRecDepth 100000 in
theorem mw_571 : (Cond.instanceMethod ({ cls := "BroadcastCarousel$Parser", name := "fail", desc := "(I)V" } : MethodName)) ∈ bc_wd := bc_mem 571 (by rfl) (by decide +kernel)
theorem mw_7 : (Cond.selects "BroadcastCarousel$Parser" ({ cls := "BroadcastCarousel$Parser", name := "fail", desc := "(I)V" } : MethodName) ({ cls := "BroadcastCarousel$Parser", name := "fail", desc := "(I)V" } : MethodName)) ∈ bc_wd := bc_mem 7 (by rfl) (by decide +kernel)
set_option maxRecDepth 100000 in
theorem mw_572 : (Cond.code ({ cls := "BroadcastCarousel$Parser", name := "fail", desc := "(I)V" } : MethodName) prog_4_method_11_code (2 : Nat) (Option.none : Option ClassFile.FieldType)) ∈ bc_wd := bc_mem 572 (by rfl) (by decide +kernel)
set_option maxRecDepth 100000 in
theorem mw_573 : (Cond.methodLink "BroadcastCarousel$Parser" (76 : Nat) ({ cls := "BroadcastCarousel$Parser", name := "takeNumber", desc := "(II)I" } : MethodName)) ∈ bc_wd := bc_mem 573 (by rfl) (by decide +kernel)
set_option maxRecDepth 100000 in
theorem mw_575 : (Cond.instanceMethod ({ cls := "BroadcastCarousel$Parser", name := "takeNumber", desc := "(II)I" } : MethodName)) ∈ bc_wd := bc_mem 575 (by rfl) (by decide +kernel)
theorem mw_8 : (Cond.selects "BroadcastCarousel$Parser" ({ cls := "BroadcastCarousel$Parser", name := "takeNumber", desc := "(II)I" } : MethodName) ({ cls := "BroadcastCarousel$Parser", name := "takeNumber", desc := "(II)I" } : MethodName)) ∈ bc_wd := bc_mem 8 (by rfl) (by decide +kernel)
set_option maxRecDepth 100000 in
theorem mw_576 : (Cond.code ({ cls := "BroadcastCarousel$Parser", name := "takeNumber", desc := "(II)I" } : MethodName) prog_4_method_8_code (4 : Nat) (Option.some ClassFile.FieldType.int)) ∈ bc_wd := bc_mem 576 (by rfl) (by decide +kernel)
set_option maxRecDepth 100000 in
theorem mw_577 : (Cond.methodLink "BroadcastCarousel$Parser" (85 : Nat) ({ cls := "BroadcastCarousel$Parser", name := "takeSemicolon", desc := "()V" } : MethodName)) ∈ bc_wd := bc_mem 577 (by rfl) (by decide +kernel)
set_option maxRecDepth 100000 in
theorem mw_579 : (Cond.instanceMethod ({ cls := "BroadcastCarousel$Parser", name := "takeSemicolon", desc := "()V" } : MethodName)) ∈ bc_wd := bc_mem 579 (by rfl) (by decide +kernel)
theorem mw_9 : (Cond.selects "BroadcastCarousel$Parser" ({ cls := "BroadcastCarousel$Parser", name := "takeSemicolon", desc := "()V" } : MethodName) ({ cls := "BroadcastCarousel$Parser", name := "takeSemicolon", desc := "()V" } : MethodName)) ∈ bc_wd := bc_mem 9 (by rfl) (by decide +kernel)
set_option maxRecDepth 100000 in
theorem mw_580 : (Cond.code ({ cls := "BroadcastCarousel$Parser", name := "takeSemicolon", desc := "()V" } : MethodName) prog_4_method_10_code (1 : Nat) (Option.none : Option ClassFile.FieldType)) ∈ bc_wd := bc_mem 580 (by rfl) (by decide +kernel)
set_option maxRecDepth 100000 in
theorem mw_581 : (Cond.methodLink "BroadcastCarousel$Parser" (56 : Nat) ({ cls := "BroadcastCarousel$Parser", name := "readDisks", desc := "(LBroadcastCarousel$Settings;)V" } : MethodName)) ∈ bc_wd := bc_mem 581 (by rfl) (by decide +kernel)
set_option maxRecDepth 100000 in
theorem mw_583 : (Cond.instanceMethod ({ cls := "BroadcastCarousel$Parser", name := "readDisks", desc := "(LBroadcastCarousel$Settings;)V" } : MethodName)) ∈ bc_wd := bc_mem 583 (by rfl) (by decide +kernel)
theorem mw_10 : (Cond.selects "BroadcastCarousel$Parser" ({ cls := "BroadcastCarousel$Parser", name := "readDisks", desc := "(LBroadcastCarousel$Settings;)V" } : MethodName) ({ cls := "BroadcastCarousel$Parser", name := "readDisks", desc := "(LBroadcastCarousel$Settings;)V" } : MethodName)) ∈ bc_wd := bc_mem 10 (by rfl) (by decide +kernel)
set_option maxRecDepth 100000 in
theorem mw_584 : (Cond.code ({ cls := "BroadcastCarousel$Parser", name := "readDisks", desc := "(LBroadcastCarousel$Settings;)V" } : MethodName) prog_4_method_4_code (4 : Nat) (Option.none : Option ClassFile.FieldType)) ∈ bc_wd := bc_mem 584 (by rfl) (by decide +kernel)
set_option maxRecDepth 100000 in
theorem mw_586 : (Cond.methodLink "BroadcastCarousel$Parser" (90 : Nat) ({ cls := "BroadcastCarousel$Settings", name := "addDisk", desc := "(I)V" } : MethodName)) ∈ bc_wd := bc_mem 586 (by rfl) (by decide +kernel)
set_option maxRecDepth 100000 in
theorem mw_587 : (Cond.instanceMethod ({ cls := "BroadcastCarousel$Settings", name := "addDisk", desc := "(I)V" } : MethodName)) ∈ bc_wd := bc_mem 587 (by rfl) (by decide +kernel)
set_option maxRecDepth 100000 in
theorem mw_588 : (Cond.selects "BroadcastCarousel$Settings" ({ cls := "BroadcastCarousel$Settings", name := "addDisk", desc := "(I)V" } : MethodName) ({ cls := "BroadcastCarousel$Settings", name := "addDisk", desc := "(I)V" } : MethodName)) ∈ bc_wd := bc_mem 588 (by rfl) (by decide +kernel)
set_option maxRecDepth 100000 in
theorem mw_108 : (Cond.initialized "BroadcastCarousel$Settings") ∈ bc_wd := bc_mem 108 (by rfl) (by decide +kernel)
set_option maxRecDepth 100000 in
theorem mw_589 : (Cond.code ({ cls := "BroadcastCarousel$Settings", name := "addDisk", desc := "(I)V" } : MethodName) prog_7_method_2_code (2 : Nat) (Option.none : Option ClassFile.FieldType)) ∈ bc_wd := bc_mem 589 (by rfl) (by decide +kernel)
set_option maxRecDepth 100000 in
theorem mw_590 : (Cond.methodLink "BroadcastCarousel$Parser" (59 : Nat) ({ cls := "BroadcastCarousel$Parser", name := "readItems", desc := "(LBroadcastCarousel$Settings;)V" } : MethodName)) ∈ bc_wd := bc_mem 590 (by rfl) (by decide +kernel)
set_option maxRecDepth 100000 in
theorem mw_592 : (Cond.instanceMethod ({ cls := "BroadcastCarousel$Parser", name := "readItems", desc := "(LBroadcastCarousel$Settings;)V" } : MethodName)) ∈ bc_wd := bc_mem 592 (by rfl) (by decide +kernel)
theorem mw_11 : (Cond.selects "BroadcastCarousel$Parser" ({ cls := "BroadcastCarousel$Parser", name := "readItems", desc := "(LBroadcastCarousel$Settings;)V" } : MethodName) ({ cls := "BroadcastCarousel$Parser", name := "readItems", desc := "(LBroadcastCarousel$Settings;)V" } : MethodName)) ∈ bc_wd := bc_mem 11 (by rfl) (by decide +kernel)
set_option maxRecDepth 100000 in
theorem mw_593 : (Cond.code ({ cls := "BroadcastCarousel$Parser", name := "readItems", desc := "(LBroadcastCarousel$Settings;)V" } : MethodName) prog_4_method_5_code (6 : Nat) (Option.none : Option ClassFile.FieldType)) ∈ bc_wd := bc_mem 593 (by rfl) (by decide +kernel)
set_option maxRecDepth 100000 in
theorem mw_595 : (Cond.methodLink "BroadcastCarousel$Parser" (98 : Nat) ({ cls := "BroadcastCarousel$Settings", name := "addItem", desc := "(III)V" } : MethodName)) ∈ bc_wd := bc_mem 595 (by rfl) (by decide +kernel)
set_option maxRecDepth 100000 in
theorem mw_596 : (Cond.instanceMethod ({ cls := "BroadcastCarousel$Settings", name := "addItem", desc := "(III)V" } : MethodName)) ∈ bc_wd := bc_mem 596 (by rfl) (by decide +kernel)
set_option maxRecDepth 100000 in
theorem mw_597 : (Cond.selects "BroadcastCarousel$Settings" ({ cls := "BroadcastCarousel$Settings", name := "addItem", desc := "(III)V" } : MethodName) ({ cls := "BroadcastCarousel$Settings", name := "addItem", desc := "(III)V" } : MethodName)) ∈ bc_wd := bc_mem 597 (by rfl) (by decide +kernel)
set_option maxRecDepth 100000 in
theorem mw_598 : (Cond.code ({ cls := "BroadcastCarousel$Settings", name := "addItem", desc := "(III)V" } : MethodName) prog_7_method_3_code (4 : Nat) (Option.none : Option ClassFile.FieldType)) ∈ bc_wd := bc_mem 598 (by rfl) (by decide +kernel)
set_option maxRecDepth 100000 in
theorem mw_599 : (Cond.methodLink "BroadcastCarousel$Parser" (62 : Nat) ({ cls := "BroadcastCarousel$Parser", name := "readClients", desc := "(LBroadcastCarousel$State;)V" } : MethodName)) ∈ bc_wd := bc_mem 599 (by rfl) (by decide +kernel)
set_option maxRecDepth 100000 in
theorem mw_601 : (Cond.instanceMethod ({ cls := "BroadcastCarousel$Parser", name := "readClients", desc := "(LBroadcastCarousel$State;)V" } : MethodName)) ∈ bc_wd := bc_mem 601 (by rfl) (by decide +kernel)
theorem mw_12 : (Cond.selects "BroadcastCarousel$Parser" ({ cls := "BroadcastCarousel$Parser", name := "readClients", desc := "(LBroadcastCarousel$State;)V" } : MethodName) ({ cls := "BroadcastCarousel$Parser", name := "readClients", desc := "(LBroadcastCarousel$State;)V" } : MethodName)) ∈ bc_wd := bc_mem 12 (by rfl) (by decide +kernel)
set_option maxRecDepth 100000 in
theorem mw_602 : (Cond.code ({ cls := "BroadcastCarousel$Parser", name := "readClients", desc := "(LBroadcastCarousel$State;)V" } : MethodName) prog_4_method_6_code (5 : Nat) (Option.none : Option ClassFile.FieldType)) ∈ bc_wd := bc_mem 602 (by rfl) (by decide +kernel)
set_option maxRecDepth 100000 in
theorem mw_604 : (Cond.methodLink "BroadcastCarousel$Parser" (104 : Nat) ({ cls := "BroadcastCarousel$Parser", name := "takePolicy", desc := "()I" } : MethodName)) ∈ bc_wd := bc_mem 604 (by rfl) (by decide +kernel)
set_option maxRecDepth 100000 in
theorem mw_606 : (Cond.instanceMethod ({ cls := "BroadcastCarousel$Parser", name := "takePolicy", desc := "()I" } : MethodName)) ∈ bc_wd := bc_mem 606 (by rfl) (by decide +kernel)
theorem mw_13 : (Cond.selects "BroadcastCarousel$Parser" ({ cls := "BroadcastCarousel$Parser", name := "takePolicy", desc := "()I" } : MethodName) ({ cls := "BroadcastCarousel$Parser", name := "takePolicy", desc := "()I" } : MethodName)) ∈ bc_wd := bc_mem 13 (by rfl) (by decide +kernel)
set_option maxRecDepth 100000 in
theorem mw_607 : (Cond.code ({ cls := "BroadcastCarousel$Parser", name := "takePolicy", desc := "()I" } : MethodName) prog_4_method_9_code (2 : Nat) (Option.some ClassFile.FieldType.int)) ∈ bc_wd := bc_mem 607 (by rfl) (by decide +kernel)
set_option maxRecDepth 100000 in
theorem mw_611 : (Cond.methodLink "BroadcastCarousel$Parser" (108 : Nat) ({ cls := "BroadcastCarousel$State", name := "addClient", desc := "(II)V" } : MethodName)) ∈ bc_wd := bc_mem 611 (by rfl) (by decide +kernel)
set_option maxRecDepth 100000 in
theorem mw_612 : (Cond.instanceMethod ({ cls := "BroadcastCarousel$State", name := "addClient", desc := "(II)V" } : MethodName)) ∈ bc_wd := bc_mem 612 (by rfl) (by decide +kernel)
set_option maxRecDepth 100000 in
theorem mw_613 : (Cond.selects "BroadcastCarousel$State" ({ cls := "BroadcastCarousel$State", name := "addClient", desc := "(II)V" } : MethodName) ({ cls := "BroadcastCarousel$State", name := "addClient", desc := "(II)V" } : MethodName)) ∈ bc_wd := bc_mem 613 (by rfl) (by decide +kernel)
set_option maxRecDepth 100000 in
theorem mw_614 : (Cond.code ({ cls := "BroadcastCarousel$State", name := "addClient", desc := "(II)V" } : MethodName) prog_8_method_3_code (3 : Nat) (Option.none : Option ClassFile.FieldType)) ∈ bc_wd := bc_mem 614 (by rfl) (by decide +kernel)
set_option maxRecDepth 100000 in
theorem mw_615 : (Cond.methodLink "BroadcastCarousel$State" (35 : Nat) ({ cls := "BroadcastCarousel$Client", name := "start", desc := "(II)V" } : MethodName)) ∈ bc_wd := bc_mem 615 (by rfl) (by decide +kernel)
set_option maxRecDepth 100000 in
theorem mw_616 : (Cond.instanceMethod ({ cls := "BroadcastCarousel$Client", name := "start", desc := "(II)V" } : MethodName)) ∈ bc_wd := bc_mem 616 (by rfl) (by decide +kernel)
set_option maxRecDepth 100000 in
theorem mw_617 : (Cond.selects "BroadcastCarousel$Client" ({ cls := "BroadcastCarousel$Client", name := "start", desc := "(II)V" } : MethodName) ({ cls := "BroadcastCarousel$Client", name := "start", desc := "(II)V" } : MethodName)) ∈ bc_wd := bc_mem 617 (by rfl) (by decide +kernel)
set_option maxRecDepth 100000 in
theorem mw_109 : (Cond.initialized "BroadcastCarousel$Client") ∈ bc_wd := bc_mem 109 (by rfl) (by decide +kernel)
set_option maxRecDepth 100000 in
theorem mw_618 : (Cond.code ({ cls := "BroadcastCarousel$Client", name := "start", desc := "(II)V" } : MethodName) prog_2_method_2_code (4 : Nat) (Option.none : Option ClassFile.FieldType)) ∈ bc_wd := bc_mem 618 (by rfl) (by decide +kernel)
set_option maxRecDepth 100000 in
theorem mw_619 : (Cond.methodLink "BroadcastCarousel" (108 : Nat) ({ cls := "BroadcastCarousel$State", name := "copyFrom", desc := "(LBroadcastCarousel$State;)V" } : MethodName)) ∈ bc_wd := bc_mem 619 (by rfl) (by decide +kernel)
set_option maxRecDepth 100000 in
theorem mw_620 : (Cond.instanceMethod ({ cls := "BroadcastCarousel$State", name := "copyFrom", desc := "(LBroadcastCarousel$State;)V" } : MethodName)) ∈ bc_wd := bc_mem 620 (by rfl) (by decide +kernel)
set_option maxRecDepth 100000 in
theorem mw_621 : (Cond.selects "BroadcastCarousel$State" ({ cls := "BroadcastCarousel$State", name := "copyFrom", desc := "(LBroadcastCarousel$State;)V" } : MethodName) ({ cls := "BroadcastCarousel$State", name := "copyFrom", desc := "(LBroadcastCarousel$State;)V" } : MethodName)) ∈ bc_wd := bc_mem 621 (by rfl) (by decide +kernel)
set_option maxRecDepth 100000 in
theorem mw_622 : (Cond.code ({ cls := "BroadcastCarousel$State", name := "copyFrom", desc := "(LBroadcastCarousel$State;)V" } : MethodName) prog_8_method_4_code (3 : Nat) (Option.none : Option ClassFile.FieldType)) ∈ bc_wd := bc_mem 622 (by rfl) (by decide +kernel)
set_option maxRecDepth 100000 in
theorem mw_623 : (Cond.methodLink "BroadcastCarousel$State" (39 : Nat) ({ cls := "BroadcastCarousel$Settings", name := "copyFrom", desc := "(LBroadcastCarousel$Settings;)V" } : MethodName)) ∈ bc_wd := bc_mem 623 (by rfl) (by decide +kernel)
set_option maxRecDepth 100000 in
theorem mw_624 : (Cond.instanceMethod ({ cls := "BroadcastCarousel$Settings", name := "copyFrom", desc := "(LBroadcastCarousel$Settings;)V" } : MethodName)) ∈ bc_wd := bc_mem 624 (by rfl) (by decide +kernel)
set_option maxRecDepth 100000 in
theorem mw_625 : (Cond.selects "BroadcastCarousel$Settings" ({ cls := "BroadcastCarousel$Settings", name := "copyFrom", desc := "(LBroadcastCarousel$Settings;)V" } : MethodName) ({ cls := "BroadcastCarousel$Settings", name := "copyFrom", desc := "(LBroadcastCarousel$Settings;)V" } : MethodName)) ∈ bc_wd := bc_mem 625 (by rfl) (by decide +kernel)
set_option maxRecDepth 100000 in
theorem mw_626 : (Cond.code ({ cls := "BroadcastCarousel$Settings", name := "copyFrom", desc := "(LBroadcastCarousel$Settings;)V" } : MethodName) prog_7_method_4_code (2 : Nat) (Option.none : Option ClassFile.FieldType)) ∈ bc_wd := bc_mem 626 (by rfl) (by decide +kernel)
set_option maxRecDepth 100000 in
theorem mw_630 : (Cond.methodLink "BroadcastCarousel$State" (43 : Nat) ({ cls := "BroadcastCarousel$Client", name := "copyFrom", desc := "(LBroadcastCarousel$Client;)V" } : MethodName)) ∈ bc_wd := bc_mem 630 (by rfl) (by decide +kernel)
set_option maxRecDepth 100000 in
theorem mw_631 : (Cond.instanceMethod ({ cls := "BroadcastCarousel$Client", name := "copyFrom", desc := "(LBroadcastCarousel$Client;)V" } : MethodName)) ∈ bc_wd := bc_mem 631 (by rfl) (by decide +kernel)
set_option maxRecDepth 100000 in
theorem mw_632 : (Cond.selects "BroadcastCarousel$Client" ({ cls := "BroadcastCarousel$Client", name := "copyFrom", desc := "(LBroadcastCarousel$Client;)V" } : MethodName) ({ cls := "BroadcastCarousel$Client", name := "copyFrom", desc := "(LBroadcastCarousel$Client;)V" } : MethodName)) ∈ bc_wd := bc_mem 632 (by rfl) (by decide +kernel)
set_option maxRecDepth 100000 in
theorem mw_633 : (Cond.code ({ cls := "BroadcastCarousel$Client", name := "copyFrom", desc := "(LBroadcastCarousel$Client;)V" } : MethodName) prog_2_method_3_code (2 : Nat) (Option.none : Option ClassFile.FieldType)) ∈ bc_wd := bc_mem 633 (by rfl) (by decide +kernel)
set_option maxRecDepth 100000 in
theorem mw_635 : (Cond.methodLink "BroadcastCarousel" (115 : Nat) ({ cls := "BroadcastCarousel$Program", name := "build", desc := "(LBroadcastCarousel$Settings;)V" } : MethodName)) ∈ bc_wd := bc_mem 635 (by rfl) (by decide +kernel)
set_option maxRecDepth 100000 in
theorem mw_636 : (Cond.instanceMethod ({ cls := "BroadcastCarousel$Program", name := "build", desc := "(LBroadcastCarousel$Settings;)V" } : MethodName)) ∈ bc_wd := bc_mem 636 (by rfl) (by decide +kernel)
set_option maxRecDepth 100000 in
theorem mw_637 : (Cond.selects "BroadcastCarousel$Program" ({ cls := "BroadcastCarousel$Program", name := "build", desc := "(LBroadcastCarousel$Settings;)V" } : MethodName) ({ cls := "BroadcastCarousel$Program", name := "build", desc := "(LBroadcastCarousel$Settings;)V" } : MethodName)) ∈ bc_wd := bc_mem 637 (by rfl) (by decide +kernel)
set_option maxRecDepth 100000 in
theorem mw_111 : (Cond.initialized "BroadcastCarousel$Program") ∈ bc_wd := bc_mem 111 (by rfl) (by decide +kernel)
set_option maxRecDepth 100000 in
theorem mw_638 : (Cond.code ({ cls := "BroadcastCarousel$Program", name := "build", desc := "(LBroadcastCarousel$Settings;)V" } : MethodName) prog_6_method_2_code (3 : Nat) (Option.none : Option ClassFile.FieldType)) ∈ bc_wd := bc_mem 638 (by rfl) (by decide +kernel)
set_option maxRecDepth 100000 in
theorem mw_639 : (Cond.methodLink "BroadcastCarousel$Program" (51 : Nat) ({ cls := "BroadcastCarousel$Program", name := "countMembers", desc := "(LBroadcastCarousel$Settings;)V" } : MethodName)) ∈ bc_wd := bc_mem 639 (by rfl) (by decide +kernel)
set_option maxRecDepth 100000 in
theorem mw_641 : (Cond.instanceMethod ({ cls := "BroadcastCarousel$Program", name := "countMembers", desc := "(LBroadcastCarousel$Settings;)V" } : MethodName)) ∈ bc_wd := bc_mem 641 (by rfl) (by decide +kernel)
theorem mw_14 : (Cond.selects "BroadcastCarousel$Program" ({ cls := "BroadcastCarousel$Program", name := "countMembers", desc := "(LBroadcastCarousel$Settings;)V" } : MethodName) ({ cls := "BroadcastCarousel$Program", name := "countMembers", desc := "(LBroadcastCarousel$Settings;)V" } : MethodName)) ∈ bc_wd := bc_mem 14 (by rfl) (by decide +kernel)
set_option maxRecDepth 100000 in
theorem mw_642 : (Cond.code ({ cls := "BroadcastCarousel$Program", name := "countMembers", desc := "(LBroadcastCarousel$Settings;)V" } : MethodName) prog_6_method_3_code (4 : Nat) (Option.none : Option ClassFile.FieldType)) ∈ bc_wd := bc_mem 642 (by rfl) (by decide +kernel)
set_option maxRecDepth 100000 in
theorem mw_643 : (Cond.methodLink "BroadcastCarousel$Program" (55 : Nat) ({ cls := "BroadcastCarousel$Program", name := "countRounds", desc := "(LBroadcastCarousel$Settings;)V" } : MethodName)) ∈ bc_wd := bc_mem 643 (by rfl) (by decide +kernel)
set_option maxRecDepth 100000 in
theorem mw_645 : (Cond.instanceMethod ({ cls := "BroadcastCarousel$Program", name := "countRounds", desc := "(LBroadcastCarousel$Settings;)V" } : MethodName)) ∈ bc_wd := bc_mem 645 (by rfl) (by decide +kernel)
theorem mw_15 : (Cond.selects "BroadcastCarousel$Program" ({ cls := "BroadcastCarousel$Program", name := "countRounds", desc := "(LBroadcastCarousel$Settings;)V" } : MethodName) ({ cls := "BroadcastCarousel$Program", name := "countRounds", desc := "(LBroadcastCarousel$Settings;)V" } : MethodName)) ∈ bc_wd := bc_mem 15 (by rfl) (by decide +kernel)
set_option maxRecDepth 100000 in
theorem mw_646 : (Cond.code ({ cls := "BroadcastCarousel$Program", name := "countRounds", desc := "(LBroadcastCarousel$Settings;)V" } : MethodName) prog_6_method_4_code (3 : Nat) (Option.none : Option ClassFile.FieldType)) ∈ bc_wd := bc_mem 646 (by rfl) (by decide +kernel)
set_option maxRecDepth 100000 in
theorem mw_648 : (Cond.static ({ cls := "BroadcastCarousel$Program", name := "commonMultiple", desc := "(II)I" } : MethodName)) ∈ bc_wd := bc_mem 648 (by rfl) (by decide +kernel)
set_option maxRecDepth 100000 in
theorem mw_649 : (Cond.code ({ cls := "BroadcastCarousel$Program", name := "commonMultiple", desc := "(II)I" } : MethodName) prog_6_method_5_code (3 : Nat) (Option.some ClassFile.FieldType.int)) ∈ bc_wd := bc_mem 649 (by rfl) (by decide +kernel)
set_option maxRecDepth 100000 in
theorem mw_647 : (Cond.methodLink "BroadcastCarousel$Program" (86 : Nat) ({ cls := "BroadcastCarousel$Program", name := "commonMultiple", desc := "(II)I" } : MethodName)) ∈ bc_wd := bc_mem 647 (by rfl) (by decide +kernel)
set_option maxRecDepth 100000 in
theorem mw_650 : (Cond.methodLink "BroadcastCarousel$Program" (58 : Nat) ({ cls := "BroadcastCarousel$Program", name := "cutChunks", desc := "(LBroadcastCarousel$Settings;)V" } : MethodName)) ∈ bc_wd := bc_mem 650 (by rfl) (by decide +kernel)
set_option maxRecDepth 100000 in
theorem mw_652 : (Cond.instanceMethod ({ cls := "BroadcastCarousel$Program", name := "cutChunks", desc := "(LBroadcastCarousel$Settings;)V" } : MethodName)) ∈ bc_wd := bc_mem 652 (by rfl) (by decide +kernel)
theorem mw_16 : (Cond.selects "BroadcastCarousel$Program" ({ cls := "BroadcastCarousel$Program", name := "cutChunks", desc := "(LBroadcastCarousel$Settings;)V" } : MethodName) ({ cls := "BroadcastCarousel$Program", name := "cutChunks", desc := "(LBroadcastCarousel$Settings;)V" } : MethodName)) ∈ bc_wd := bc_mem 16 (by rfl) (by decide +kernel)
set_option maxRecDepth 100000 in
theorem mw_653 : (Cond.code ({ cls := "BroadcastCarousel$Program", name := "cutChunks", desc := "(LBroadcastCarousel$Settings;)V" } : MethodName) prog_6_method_6_code (5 : Nat) (Option.none : Option ClassFile.FieldType)) ∈ bc_wd := bc_mem 653 (by rfl) (by decide +kernel)
set_option maxRecDepth 100000 in
theorem mw_655 : (Cond.static ({ cls := "java/lang/Math", name := "max", desc := "(II)I" } : MethodName)) ∈ bc_wd := bc_mem 655 (by rfl) (by decide +kernel)
set_option maxRecDepth 100000 in
theorem mw_656 : (Cond.code ({ cls := "java/lang/Math", name := "max", desc := "(II)I" } : MethodName) prog_19_method_65_code (2 : Nat) (Option.some ClassFile.FieldType.int)) ∈ bc_wd := bc_mem 656 (by rfl) (by decide +kernel)
set_option maxRecDepth 100000 in
theorem mw_654 : (Cond.methodLink "BroadcastCarousel$Program" (61 : Nat) ({ cls := "java/lang/Math", name := "max", desc := "(II)I" } : MethodName)) ∈ bc_wd := bc_mem 654 (by rfl) (by decide +kernel)
set_option maxRecDepth 100000 in
theorem mw_657 : (Cond.methodLink "BroadcastCarousel$Program" (71 : Nat) ({ cls := "BroadcastCarousel$Program", name := "placeItems", desc := "(LBroadcastCarousel$Settings;)V" } : MethodName)) ∈ bc_wd := bc_mem 657 (by rfl) (by decide +kernel)
set_option maxRecDepth 100000 in
theorem mw_659 : (Cond.instanceMethod ({ cls := "BroadcastCarousel$Program", name := "placeItems", desc := "(LBroadcastCarousel$Settings;)V" } : MethodName)) ∈ bc_wd := bc_mem 659 (by rfl) (by decide +kernel)
theorem mw_17 : (Cond.selects "BroadcastCarousel$Program" ({ cls := "BroadcastCarousel$Program", name := "placeItems", desc := "(LBroadcastCarousel$Settings;)V" } : MethodName) ({ cls := "BroadcastCarousel$Program", name := "placeItems", desc := "(LBroadcastCarousel$Settings;)V" } : MethodName)) ∈ bc_wd := bc_mem 17 (by rfl) (by decide +kernel)
set_option maxRecDepth 100000 in
theorem mw_660 : (Cond.code ({ cls := "BroadcastCarousel$Program", name := "placeItems", desc := "(LBroadcastCarousel$Settings;)V" } : MethodName) prog_6_method_7_code (4 : Nat) (Option.none : Option ClassFile.FieldType)) ∈ bc_wd := bc_mem 660 (by rfl) (by decide +kernel)
set_option maxRecDepth 100000 in
theorem mw_661 : (Cond.methodLink "BroadcastCarousel$Program" (89 : Nat) ({ cls := "BroadcastCarousel$Program", name := "placeItem", desc := "(III)V" } : MethodName)) ∈ bc_wd := bc_mem 661 (by rfl) (by decide +kernel)
set_option maxRecDepth 100000 in
theorem mw_663 : (Cond.instanceMethod ({ cls := "BroadcastCarousel$Program", name := "placeItem", desc := "(III)V" } : MethodName)) ∈ bc_wd := bc_mem 663 (by rfl) (by decide +kernel)
theorem mw_18 : (Cond.selects "BroadcastCarousel$Program" ({ cls := "BroadcastCarousel$Program", name := "placeItem", desc := "(III)V" } : MethodName) ({ cls := "BroadcastCarousel$Program", name := "placeItem", desc := "(III)V" } : MethodName)) ∈ bc_wd := bc_mem 18 (by rfl) (by decide +kernel)
set_option maxRecDepth 100000 in
theorem mw_664 : (Cond.code ({ cls := "BroadcastCarousel$Program", name := "placeItem", desc := "(III)V" } : MethodName) prog_6_method_8_code (8 : Nat) (Option.none : Option ClassFile.FieldType)) ∈ bc_wd := bc_mem 664 (by rfl) (by decide +kernel)
set_option maxRecDepth 100000 in
theorem mw_665 : (Cond.methodLink "BroadcastCarousel$Program" (93 : Nat) ({ cls := "BroadcastCarousel$Program", name := "timeOf", desc := "(I)I" } : MethodName)) ∈ bc_wd := bc_mem 665 (by rfl) (by decide +kernel)
set_option maxRecDepth 100000 in
theorem mw_667 : (Cond.instanceMethod ({ cls := "BroadcastCarousel$Program", name := "timeOf", desc := "(I)I" } : MethodName)) ∈ bc_wd := bc_mem 667 (by rfl) (by decide +kernel)
theorem mw_19 : (Cond.selects "BroadcastCarousel$Program" ({ cls := "BroadcastCarousel$Program", name := "timeOf", desc := "(I)I" } : MethodName) ({ cls := "BroadcastCarousel$Program", name := "timeOf", desc := "(I)I" } : MethodName)) ∈ bc_wd := bc_mem 19 (by rfl) (by decide +kernel)
set_option maxRecDepth 100000 in
theorem mw_668 : (Cond.code ({ cls := "BroadcastCarousel$Program", name := "timeOf", desc := "(I)I" } : MethodName) prog_6_method_9_code (3 : Nat) (Option.some ClassFile.FieldType.int)) ∈ bc_wd := bc_mem 668 (by rfl) (by decide +kernel)
set_option maxRecDepth 100000 in
theorem mw_669 : (Cond.methodLink "BroadcastCarousel" (119 : Nat) ({ cls := "BroadcastCarousel$History", name := "forget", desc := "()V" } : MethodName)) ∈ bc_wd := bc_mem 669 (by rfl) (by decide +kernel)
set_option maxRecDepth 100000 in
theorem mw_670 : (Cond.instanceMethod ({ cls := "BroadcastCarousel$History", name := "forget", desc := "()V" } : MethodName)) ∈ bc_wd := bc_mem 670 (by rfl) (by decide +kernel)
set_option maxRecDepth 100000 in
theorem mw_671 : (Cond.selects "BroadcastCarousel$History" ({ cls := "BroadcastCarousel$History", name := "forget", desc := "()V" } : MethodName) ({ cls := "BroadcastCarousel$History", name := "forget", desc := "()V" } : MethodName)) ∈ bc_wd := bc_mem 671 (by rfl) (by decide +kernel)
set_option maxRecDepth 100000 in
theorem mw_110 : (Cond.initialized "BroadcastCarousel$History") ∈ bc_wd := bc_mem 110 (by rfl) (by decide +kernel)
set_option maxRecDepth 100000 in
theorem mw_672 : (Cond.code ({ cls := "BroadcastCarousel$History", name := "forget", desc := "()V" } : MethodName) prog_3_method_2_code (1 : Nat) (Option.none : Option ClassFile.FieldType)) ∈ bc_wd := bc_mem 672 (by rfl) (by decide +kernel)
set_option maxRecDepth 100000 in
theorem mw_752 : (Cond.methodLink "BroadcastCarousel" (93 : Nat) ({ cls := "BroadcastCarousel", name := "appendWord", desc := "(I)V" } : MethodName)) ∈ bc_wd := bc_mem 752 (by rfl) (by decide +kernel)
set_option maxRecDepth 100000 in
theorem mw_754 : (Cond.instanceMethod ({ cls := "BroadcastCarousel", name := "appendWord", desc := "(I)V" } : MethodName)) ∈ bc_wd := bc_mem 754 (by rfl) (by decide +kernel)
theorem mw_21 : (Cond.selects "BroadcastCarousel" ({ cls := "BroadcastCarousel", name := "appendWord", desc := "(I)V" } : MethodName) ({ cls := "BroadcastCarousel", name := "appendWord", desc := "(I)V" } : MethodName)) ∈ bc_wd := bc_mem 21 (by rfl) (by decide +kernel)
set_option maxRecDepth 100000 in
theorem mw_105 : (Cond.initialized "BroadcastCarousel") ∈ bc_wd := bc_mem 105 (by rfl) (by decide +kernel)
set_option maxRecDepth 100000 in
theorem mw_755 : (Cond.code ({ cls := "BroadcastCarousel", name := "appendWord", desc := "(I)V" } : MethodName) prog_1_method_3_code (3 : Nat) (Option.none : Option ClassFile.FieldType)) ∈ bc_wd := bc_mem 755 (by rfl) (by decide +kernel)
set_option maxRecDepth 100000 in
theorem mw_765 : (Cond.static ({ cls := "BroadcastCarousel", name := "needRange", desc := "(III)V" } : MethodName)) ∈ bc_wd := bc_mem 765 (by rfl) (by decide +kernel)
set_option maxRecDepth 100000 in
theorem mw_766 : (Cond.code ({ cls := "BroadcastCarousel", name := "needRange", desc := "(III)V" } : MethodName) prog_1_method_58_code (3 : Nat) (Option.none : Option ClassFile.FieldType)) ∈ bc_wd := bc_mem 766 (by rfl) (by decide +kernel)
set_option maxRecDepth 100000 in
theorem mw_764 : (Cond.methodLink "BroadcastCarousel" (97 : Nat) ({ cls := "BroadcastCarousel", name := "needRange", desc := "(III)V" } : MethodName)) ∈ bc_wd := bc_mem 764 (by rfl) (by decide +kernel)
set_option maxRecDepth 100000 in
theorem mw_790 : (Cond.methodLink "BroadcastCarousel" (125 : Nat) ({ cls := "BroadcastCarousel", name := "needCarousel", desc := "()V" } : MethodName)) ∈ bc_wd := bc_mem 790 (by rfl) (by decide +kernel)
set_option maxRecDepth 100000 in
theorem mw_792 : (Cond.instanceMethod ({ cls := "BroadcastCarousel", name := "needCarousel", desc := "()V" } : MethodName)) ∈ bc_wd := bc_mem 792 (by rfl) (by decide +kernel)
theorem mw_22 : (Cond.selects "BroadcastCarousel" ({ cls := "BroadcastCarousel", name := "needCarousel", desc := "()V" } : MethodName) ({ cls := "BroadcastCarousel", name := "needCarousel", desc := "()V" } : MethodName)) ∈ bc_wd := bc_mem 22 (by rfl) (by decide +kernel)
set_option maxRecDepth 100000 in
theorem mw_793 : (Cond.code ({ cls := "BroadcastCarousel", name := "needCarousel", desc := "()V" } : MethodName) prog_1_method_57_code (1 : Nat) (Option.none : Option ClassFile.FieldType)) ∈ bc_wd := bc_mem 793 (by rfl) (by decide +kernel)
set_option maxRecDepth 100000 in
theorem mw_795 : (Cond.methodLink "BroadcastCarousel" (128 : Nat) ({ cls := "BroadcastCarousel", name := "needClient", desc := "(I)V" } : MethodName)) ∈ bc_wd := bc_mem 795 (by rfl) (by decide +kernel)
set_option maxRecDepth 100000 in
theorem mw_797 : (Cond.instanceMethod ({ cls := "BroadcastCarousel", name := "needClient", desc := "(I)V" } : MethodName)) ∈ bc_wd := bc_mem 797 (by rfl) (by decide +kernel)
theorem mw_23 : (Cond.selects "BroadcastCarousel" ({ cls := "BroadcastCarousel", name := "needClient", desc := "(I)V" } : MethodName) ({ cls := "BroadcastCarousel", name := "needClient", desc := "(I)V" } : MethodName)) ∈ bc_wd := bc_mem 23 (by rfl) (by decide +kernel)
set_option maxRecDepth 100000 in
theorem mw_798 : (Cond.code ({ cls := "BroadcastCarousel", name := "needClient", desc := "(I)V" } : MethodName) prog_1_method_62_code (2 : Nat) (Option.none : Option ClassFile.FieldType)) ∈ bc_wd := bc_mem 798 (by rfl) (by decide +kernel)
set_option maxRecDepth 100000 in
theorem mw_799 : (Cond.methodLink "BroadcastCarousel" (131 : Nat) ({ cls := "BroadcastCarousel", name := "needItem", desc := "(I)V" } : MethodName)) ∈ bc_wd := bc_mem 799 (by rfl) (by decide +kernel)
set_option maxRecDepth 100000 in
theorem mw_801 : (Cond.instanceMethod ({ cls := "BroadcastCarousel", name := "needItem", desc := "(I)V" } : MethodName)) ∈ bc_wd := bc_mem 801 (by rfl) (by decide +kernel)
theorem mw_24 : (Cond.selects "BroadcastCarousel" ({ cls := "BroadcastCarousel", name := "needItem", desc := "(I)V" } : MethodName) ({ cls := "BroadcastCarousel", name := "needItem", desc := "(I)V" } : MethodName)) ∈ bc_wd := bc_mem 24 (by rfl) (by decide +kernel)
set_option maxRecDepth 100000 in
theorem mw_802 : (Cond.code ({ cls := "BroadcastCarousel", name := "needItem", desc := "(I)V" } : MethodName) prog_1_method_60_code (2 : Nat) (Option.none : Option ClassFile.FieldType)) ∈ bc_wd := bc_mem 802 (by rfl) (by decide +kernel)
set_option maxRecDepth 100000 in
theorem mw_803 : (Cond.methodLink "BroadcastCarousel" (134 : Nat) ({ cls := "BroadcastCarousel$History", name := "remember", desc := "(LBroadcastCarousel$State;)V" } : MethodName)) ∈ bc_wd := bc_mem 803 (by rfl) (by decide +kernel)
set_option maxRecDepth 100000 in
theorem mw_804 : (Cond.instanceMethod ({ cls := "BroadcastCarousel$History", name := "remember", desc := "(LBroadcastCarousel$State;)V" } : MethodName)) ∈ bc_wd := bc_mem 804 (by rfl) (by decide +kernel)
set_option maxRecDepth 100000 in
theorem mw_805 : (Cond.selects "BroadcastCarousel$History" ({ cls := "BroadcastCarousel$History", name := "remember", desc := "(LBroadcastCarousel$State;)V" } : MethodName) ({ cls := "BroadcastCarousel$History", name := "remember", desc := "(LBroadcastCarousel$State;)V" } : MethodName)) ∈ bc_wd := bc_mem 805 (by rfl) (by decide +kernel)
set_option maxRecDepth 100000 in
theorem mw_806 : (Cond.code ({ cls := "BroadcastCarousel$History", name := "remember", desc := "(LBroadcastCarousel$State;)V" } : MethodName) prog_3_method_3_code (2 : Nat) (Option.none : Option ClassFile.FieldType)) ∈ bc_wd := bc_mem 806 (by rfl) (by decide +kernel)
set_option maxRecDepth 100000 in
theorem mw_807 : (Cond.methodLink "BroadcastCarousel$History" (25 : Nat) ({ cls := "BroadcastCarousel$State", name := "copyFrom", desc := "(LBroadcastCarousel$State;)V" } : MethodName)) ∈ bc_wd := bc_mem 807 (by rfl) (by decide +kernel)
set_option maxRecDepth 100000 in
theorem mw_808 : (Cond.methodLink "BroadcastCarousel$History" (29 : Nat) ({ cls := "java/lang/Math", name := "min", desc := "(II)I" } : MethodName)) ∈ bc_wd := bc_mem 808 (by rfl) (by decide +kernel)
set_option maxRecDepth 100000 in
theorem mw_809 : (Cond.methodLink "BroadcastCarousel" (141 : Nat) ({ cls := "BroadcastCarousel$Client", name := "ask", desc := "(ILBroadcastCarousel$Settings;LBroadcastCarousel$Program;)I" } : MethodName)) ∈ bc_wd := bc_mem 809 (by rfl) (by decide +kernel)
set_option maxRecDepth 100000 in
theorem mw_810 : (Cond.instanceMethod ({ cls := "BroadcastCarousel$Client", name := "ask", desc := "(ILBroadcastCarousel$Settings;LBroadcastCarousel$Program;)I" } : MethodName)) ∈ bc_wd := bc_mem 810 (by rfl) (by decide +kernel)
set_option maxRecDepth 100000 in
theorem mw_811 : (Cond.selects "BroadcastCarousel$Client" ({ cls := "BroadcastCarousel$Client", name := "ask", desc := "(ILBroadcastCarousel$Settings;LBroadcastCarousel$Program;)I" } : MethodName) ({ cls := "BroadcastCarousel$Client", name := "ask", desc := "(ILBroadcastCarousel$Settings;LBroadcastCarousel$Program;)I" } : MethodName)) ∈ bc_wd := bc_mem 811 (by rfl) (by decide +kernel)
set_option maxRecDepth 100000 in
theorem mw_812 : (Cond.code ({ cls := "BroadcastCarousel$Client", name := "ask", desc := "(ILBroadcastCarousel$Settings;LBroadcastCarousel$Program;)I" } : MethodName) prog_2_method_4_code (5 : Nat) (Option.some ClassFile.FieldType.int)) ∈ bc_wd := bc_mem 812 (by rfl) (by decide +kernel)
set_option maxRecDepth 100000 in
theorem mw_813 : (Cond.methodLink "BroadcastCarousel$Client" (52 : Nat) ({ cls := "BroadcastCarousel$Client", name := "note", desc := "(I)V" } : MethodName)) ∈ bc_wd := bc_mem 813 (by rfl) (by decide +kernel)
set_option maxRecDepth 100000 in
theorem mw_814 : (Cond.instanceMethod ({ cls := "BroadcastCarousel$Client", name := "note", desc := "(I)V" } : MethodName)) ∈ bc_wd := bc_mem 814 (by rfl) (by decide +kernel)
set_option maxRecDepth 100000 in
theorem mw_815 : (Cond.selects "BroadcastCarousel$Client" ({ cls := "BroadcastCarousel$Client", name := "note", desc := "(I)V" } : MethodName) ({ cls := "BroadcastCarousel$Client", name := "note", desc := "(I)V" } : MethodName)) ∈ bc_wd := bc_mem 815 (by rfl) (by decide +kernel)
set_option maxRecDepth 100000 in
theorem mw_816 : (Cond.code ({ cls := "BroadcastCarousel$Client", name := "note", desc := "(I)V" } : MethodName) prog_2_method_5_code (2 : Nat) (Option.none : Option ClassFile.FieldType)) ∈ bc_wd := bc_mem 816 (by rfl) (by decide +kernel)
set_option maxRecDepth 100000 in
theorem mw_818 : (Cond.static ({ cls := "BroadcastCarousel", name := "isIn", desc := "(II)Z" } : MethodName)) ∈ bc_wd := bc_mem 818 (by rfl) (by decide +kernel)
set_option maxRecDepth 100000 in
theorem mw_819 : (Cond.code ({ cls := "BroadcastCarousel", name := "isIn", desc := "(II)Z" } : MethodName) prog_1_method_65_code (2 : Nat) (Option.some ClassFile.FieldType.boolean)) ∈ bc_wd := bc_mem 819 (by rfl) (by decide +kernel)
set_option maxRecDepth 100000 in
theorem mw_820 : (Cond.methodLink "BroadcastCarousel$Client" (60 : Nat) ({ cls := "BroadcastCarousel$Program", name := "waitFor", desc := "(II)I" } : MethodName)) ∈ bc_wd := bc_mem 820 (by rfl) (by decide +kernel)
set_option maxRecDepth 100000 in
theorem mw_821 : (Cond.instanceMethod ({ cls := "BroadcastCarousel$Program", name := "waitFor", desc := "(II)I" } : MethodName)) ∈ bc_wd := bc_mem 821 (by rfl) (by decide +kernel)
set_option maxRecDepth 100000 in
theorem mw_822 : (Cond.selects "BroadcastCarousel$Program" ({ cls := "BroadcastCarousel$Program", name := "waitFor", desc := "(II)I" } : MethodName) ({ cls := "BroadcastCarousel$Program", name := "waitFor", desc := "(II)I" } : MethodName)) ∈ bc_wd := bc_mem 822 (by rfl) (by decide +kernel)
set_option maxRecDepth 100000 in
theorem mw_823 : (Cond.code ({ cls := "BroadcastCarousel$Program", name := "waitFor", desc := "(II)I" } : MethodName) prog_6_method_16_code (5 : Nat) (Option.some ClassFile.FieldType.int)) ∈ bc_wd := bc_mem 823 (by rfl) (by decide +kernel)
set_option maxRecDepth 100000 in
theorem mw_824 : (Cond.methodLink "BroadcastCarousel$Program" (100 : Nat) ({ cls := "BroadcastCarousel$Program", name := "inCycle", desc := "(I)I" } : MethodName)) ∈ bc_wd := bc_mem 824 (by rfl) (by decide +kernel)
set_option maxRecDepth 100000 in
theorem mw_826 : (Cond.instanceMethod ({ cls := "BroadcastCarousel$Program", name := "inCycle", desc := "(I)I" } : MethodName)) ∈ bc_wd := bc_mem 826 (by rfl) (by decide +kernel)
theorem mw_25 : (Cond.selects "BroadcastCarousel$Program" ({ cls := "BroadcastCarousel$Program", name := "inCycle", desc := "(I)I" } : MethodName) ({ cls := "BroadcastCarousel$Program", name := "inCycle", desc := "(I)I" } : MethodName)) ∈ bc_wd := bc_mem 25 (by rfl) (by decide +kernel)
set_option maxRecDepth 100000 in
theorem mw_827 : (Cond.code ({ cls := "BroadcastCarousel$Program", name := "inCycle", desc := "(I)I" } : MethodName) prog_6_method_10_code (2 : Nat) (Option.some ClassFile.FieldType.int)) ∈ bc_wd := bc_mem 827 (by rfl) (by decide +kernel)
set_option maxRecDepth 100000 in
theorem mw_829 : (Cond.static ({ cls := "java/lang/Math", name := "floorMod", desc := "(II)I" } : MethodName)) ∈ bc_wd := bc_mem 829 (by rfl) (by decide +kernel)
set_option maxRecDepth 100000 in
theorem mw_830 : (Cond.code ({ cls := "java/lang/Math", name := "floorMod", desc := "(II)I" } : MethodName) prog_19_method_50_code (3 : Nat) (Option.some ClassFile.FieldType.int)) ∈ bc_wd := bc_mem 830 (by rfl) (by decide +kernel)
set_option maxRecDepth 100000 in
theorem mw_828 : (Cond.methodLink "BroadcastCarousel$Program" (97 : Nat) ({ cls := "java/lang/Math", name := "floorMod", desc := "(II)I" } : MethodName)) ∈ bc_wd := bc_mem 828 (by rfl) (by decide +kernel)
set_option maxRecDepth 100000 in
theorem mw_831 : (Cond.methodLink "BroadcastCarousel$Program" (103 : Nat) ({ cls := "BroadcastCarousel$Program", name := "isOnAir", desc := "(II)Z" } : MethodName)) ∈ bc_wd := bc_mem 831 (by rfl) (by decide +kernel)
set_option maxRecDepth 100000 in
theorem mw_833 : (Cond.instanceMethod ({ cls := "BroadcastCarousel$Program", name := "isOnAir", desc := "(II)Z" } : MethodName)) ∈ bc_wd := bc_mem 833 (by rfl) (by decide +kernel)
theorem mw_26 : (Cond.selects "BroadcastCarousel$Program" ({ cls := "BroadcastCarousel$Program", name := "isOnAir", desc := "(II)Z" } : MethodName) ({ cls := "BroadcastCarousel$Program", name := "isOnAir", desc := "(II)Z" } : MethodName)) ∈ bc_wd := bc_mem 26 (by rfl) (by decide +kernel)
set_option maxRecDepth 100000 in
theorem mw_834 : (Cond.code ({ cls := "BroadcastCarousel$Program", name := "isOnAir", desc := "(II)Z" } : MethodName) prog_6_method_12_code (4 : Nat) (Option.some ClassFile.FieldType.boolean)) ∈ bc_wd := bc_mem 834 (by rfl) (by decide +kernel)
set_option maxRecDepth 100000 in
theorem mw_835 : (Cond.methodLink "BroadcastCarousel$Program" (107 : Nat) ({ cls := "BroadcastCarousel$Program", name := "startFrom", desc := "(I)I" } : MethodName)) ∈ bc_wd := bc_mem 835 (by rfl) (by decide +kernel)
set_option maxRecDepth 100000 in
theorem mw_837 : (Cond.instanceMethod ({ cls := "BroadcastCarousel$Program", name := "startFrom", desc := "(I)I" } : MethodName)) ∈ bc_wd := bc_mem 837 (by rfl) (by decide +kernel)
theorem mw_27 : (Cond.selects "BroadcastCarousel$Program" ({ cls := "BroadcastCarousel$Program", name := "startFrom", desc := "(I)I" } : MethodName) ({ cls := "BroadcastCarousel$Program", name := "startFrom", desc := "(I)I" } : MethodName)) ∈ bc_wd := bc_mem 27 (by rfl) (by decide +kernel)
set_option maxRecDepth 100000 in
theorem mw_838 : (Cond.code ({ cls := "BroadcastCarousel$Program", name := "startFrom", desc := "(I)I" } : MethodName) prog_6_method_15_code (3 : Nat) (Option.some ClassFile.FieldType.int)) ∈ bc_wd := bc_mem 838 (by rfl) (by decide +kernel)
set_option maxRecDepth 100000 in
theorem mw_839 : (Cond.methodLink "BroadcastCarousel$Program" (110 : Nat) ({ cls := "BroadcastCarousel$Program", name := "firstFrom", desc := "(II)I" } : MethodName)) ∈ bc_wd := bc_mem 839 (by rfl) (by decide +kernel)
set_option maxRecDepth 100000 in
theorem mw_840 : (Cond.instanceMethod ({ cls := "BroadcastCarousel$Program", name := "firstFrom", desc := "(II)I" } : MethodName)) ∈ bc_wd := bc_mem 840 (by rfl) (by decide +kernel)
set_option maxRecDepth 100000 in
theorem mw_841 : (Cond.selects "BroadcastCarousel$Program" ({ cls := "BroadcastCarousel$Program", name := "firstFrom", desc := "(II)I" } : MethodName) ({ cls := "BroadcastCarousel$Program", name := "firstFrom", desc := "(II)I" } : MethodName)) ∈ bc_wd := bc_mem 841 (by rfl) (by decide +kernel)
set_option maxRecDepth 100000 in
theorem mw_842 : (Cond.code ({ cls := "BroadcastCarousel$Program", name := "firstFrom", desc := "(II)I" } : MethodName) prog_6_method_14_code (5 : Nat) (Option.some ClassFile.FieldType.int)) ∈ bc_wd := bc_mem 842 (by rfl) (by decide +kernel)
set_option maxRecDepth 100000 in
theorem mw_843 : (Cond.methodLink "BroadcastCarousel$Client" (66 : Nat) ({ cls := "BroadcastCarousel$Program", name := "listeningFor", desc := "(II)I" } : MethodName)) ∈ bc_wd := bc_mem 843 (by rfl) (by decide +kernel)
set_option maxRecDepth 100000 in
theorem mw_844 : (Cond.instanceMethod ({ cls := "BroadcastCarousel$Program", name := "listeningFor", desc := "(II)I" } : MethodName)) ∈ bc_wd := bc_mem 844 (by rfl) (by decide +kernel)
set_option maxRecDepth 100000 in
theorem mw_845 : (Cond.selects "BroadcastCarousel$Program" ({ cls := "BroadcastCarousel$Program", name := "listeningFor", desc := "(II)I" } : MethodName) ({ cls := "BroadcastCarousel$Program", name := "listeningFor", desc := "(II)I" } : MethodName)) ∈ bc_wd := bc_mem 845 (by rfl) (by decide +kernel)
set_option maxRecDepth 100000 in
theorem mw_846 : (Cond.code ({ cls := "BroadcastCarousel$Program", name := "listeningFor", desc := "(II)I" } : MethodName) prog_6_method_17_code (4 : Nat) (Option.some ClassFile.FieldType.int)) ∈ bc_wd := bc_mem 846 (by rfl) (by decide +kernel)
set_option maxRecDepth 100000 in
theorem mw_847 : (Cond.methodLink "BroadcastCarousel$Program" (113 : Nat) ({ cls := "BroadcastCarousel$Program", name := "isStart", desc := "(I)Z" } : MethodName)) ∈ bc_wd := bc_mem 847 (by rfl) (by decide +kernel)
set_option maxRecDepth 100000 in
theorem mw_849 : (Cond.instanceMethod ({ cls := "BroadcastCarousel$Program", name := "isStart", desc := "(I)Z" } : MethodName)) ∈ bc_wd := bc_mem 849 (by rfl) (by decide +kernel)
theorem mw_28 : (Cond.selects "BroadcastCarousel$Program" ({ cls := "BroadcastCarousel$Program", name := "isStart", desc := "(I)Z" } : MethodName) ({ cls := "BroadcastCarousel$Program", name := "isStart", desc := "(I)Z" } : MethodName)) ∈ bc_wd := bc_mem 28 (by rfl) (by decide +kernel)
set_option maxRecDepth 100000 in
theorem mw_850 : (Cond.code ({ cls := "BroadcastCarousel$Program", name := "isStart", desc := "(I)Z" } : MethodName) prog_6_method_13_code (3 : Nat) (Option.some ClassFile.FieldType.boolean)) ∈ bc_wd := bc_mem 850 (by rfl) (by decide +kernel)
set_option maxRecDepth 100000 in
theorem mw_851 : (Cond.methodLink "BroadcastCarousel$Client" (69 : Nat) ({ cls := "BroadcastCarousel$Client", name := bc_nmX0_6, desc := "(ILBroadcastCarousel$Settings;)I" } : MethodName)) ∈ bc_wd := bc_mem 851 (by rfl) (by decide +kernel)
set_option maxRecDepth 100000 in
theorem mw_852 : (Cond.instanceMethod ({ cls := "BroadcastCarousel$Client", name := bc_nmX0_6, desc := "(ILBroadcastCarousel$Settings;)I" } : MethodName)) ∈ bc_wd := bc_mem 852 (by rfl) (by decide +kernel)
set_option maxRecDepth 100000 in
theorem mw_853 : (Cond.selects "BroadcastCarousel$Client" ({ cls := "BroadcastCarousel$Client", name := bc_nmX0_6, desc := "(ILBroadcastCarousel$Settings;)I" } : MethodName) ({ cls := "BroadcastCarousel$Client", name := bc_nmX0_6, desc := "(ILBroadcastCarousel$Settings;)I" } : MethodName)) ∈ bc_wd := bc_mem 853 (by rfl) (by decide +kernel)
set_option maxRecDepth 100000 in
theorem mw_854 : (Cond.code ({ cls := "BroadcastCarousel$Client", name := bc_nmX0_6, desc := "(ILBroadcastCarousel$Settings;)I" } : MethodName) prog_2_method_6_code (5 : Nat) (Option.some ClassFile.FieldType.int)) ∈ bc_wd := bc_mem 854 (by rfl) (by decide +kernel)
set_option maxRecDepth 100000 in
theorem mw_856 : (Cond.static ({ cls := "java/lang/Integer", name := "bitCount", desc := "(I)I" } : MethodName)) ∈ bc_wd := bc_mem 856 (by rfl) (by decide +kernel)
set_option maxRecDepth 100000 in
theorem mw_126 : (Cond.initialized "java/lang/Integer") ∈ bc_wd := bc_mem 126 (by rfl) (by decide +kernel)
set_option maxRecDepth 100000 in
theorem mw_857 : (Cond.code ({ cls := "java/lang/Integer", name := "bitCount", desc := "(I)I" } : MethodName) prog_18_method_49_code (1 : Nat) (Option.some ClassFile.FieldType.int)) ∈ bc_wd := bc_mem 857 (by rfl) (by decide +kernel)
set_option maxRecDepth 100000 in
theorem mw_855 : (Cond.methodLink "BroadcastCarousel$Client" (73 : Nat) ({ cls := "java/lang/Integer", name := "bitCount", desc := "(I)I" } : MethodName)) ∈ bc_wd := bc_mem 855 (by rfl) (by decide +kernel)
set_option maxRecDepth 100000 in
theorem mw_861 : (Cond.methodLink "BroadcastCarousel$Client" (84 : Nat) ({ cls := "BroadcastCarousel$Client", name := "isWorthLess", desc := "(IILBroadcastCarousel$Settings;)Z" } : MethodName)) ∈ bc_wd := bc_mem 861 (by rfl) (by decide +kernel)
set_option maxRecDepth 100000 in
theorem mw_863 : (Cond.instanceMethod ({ cls := "BroadcastCarousel$Client", name := "isWorthLess", desc := "(IILBroadcastCarousel$Settings;)Z" } : MethodName)) ∈ bc_wd := bc_mem 863 (by rfl) (by decide +kernel)
theorem mw_29 : (Cond.selects "BroadcastCarousel$Client" ({ cls := "BroadcastCarousel$Client", name := "isWorthLess", desc := "(IILBroadcastCarousel$Settings;)Z" } : MethodName) ({ cls := "BroadcastCarousel$Client", name := "isWorthLess", desc := "(IILBroadcastCarousel$Settings;)Z" } : MethodName)) ∈ bc_wd := bc_mem 29 (by rfl) (by decide +kernel)
set_option maxRecDepth 100000 in
theorem mw_864 : (Cond.code ({ cls := "BroadcastCarousel$Client", name := "isWorthLess", desc := "(IILBroadcastCarousel$Settings;)Z" } : MethodName) prog_2_method_7_code (5 : Nat) (Option.some ClassFile.FieldType.boolean)) ∈ bc_wd := bc_mem 864 (by rfl) (by decide +kernel)
set_option maxRecDepth 100000 in
theorem mw_865 : (Cond.methodLink "BroadcastCarousel$Client" (91 : Nat) ({ cls := "BroadcastCarousel$Settings", name := "speedOf", desc := "(I)I" } : MethodName)) ∈ bc_wd := bc_mem 865 (by rfl) (by decide +kernel)
set_option maxRecDepth 100000 in
theorem mw_866 : (Cond.instanceMethod ({ cls := "BroadcastCarousel$Settings", name := "speedOf", desc := "(I)I" } : MethodName)) ∈ bc_wd := bc_mem 866 (by rfl) (by decide +kernel)
set_option maxRecDepth 100000 in
theorem mw_867 : (Cond.selects "BroadcastCarousel$Settings" ({ cls := "BroadcastCarousel$Settings", name := "speedOf", desc := "(I)I" } : MethodName) ({ cls := "BroadcastCarousel$Settings", name := "speedOf", desc := "(I)I" } : MethodName)) ∈ bc_wd := bc_mem 867 (by rfl) (by decide +kernel)
set_option maxRecDepth 100000 in
theorem mw_868 : (Cond.code ({ cls := "BroadcastCarousel$Settings", name := "speedOf", desc := "(I)I" } : MethodName) prog_7_method_5_code (3 : Nat) (Option.some ClassFile.FieldType.int)) ∈ bc_wd := bc_mem 868 (by rfl) (by decide +kernel)
set_option maxRecDepth 100000 in
theorem mw_897 : (Cond.methodLink "BroadcastCarousel" (155 : Nat) ({ cls := "BroadcastCarousel", name := "needDisk", desc := "(I)V" } : MethodName)) ∈ bc_wd := bc_mem 897 (by rfl) (by decide +kernel)
set_option maxRecDepth 100000 in
theorem mw_899 : (Cond.instanceMethod ({ cls := "BroadcastCarousel", name := "needDisk", desc := "(I)V" } : MethodName)) ∈ bc_wd := bc_mem 899 (by rfl) (by decide +kernel)
theorem mw_30 : (Cond.selects "BroadcastCarousel" ({ cls := "BroadcastCarousel", name := "needDisk", desc := "(I)V" } : MethodName) ({ cls := "BroadcastCarousel", name := "needDisk", desc := "(I)V" } : MethodName)) ∈ bc_wd := bc_mem 30 (by rfl) (by decide +kernel)
set_option maxRecDepth 100000 in
theorem mw_900 : (Cond.code ({ cls := "BroadcastCarousel", name := "needDisk", desc := "(I)V" } : MethodName) prog_1_method_61_code (2 : Nat) (Option.none : Option ClassFile.FieldType)) ∈ bc_wd := bc_mem 900 (by rfl) (by decide +kernel)
set_option maxRecDepth 100000 in
theorem mw_923 : (Cond.static ({ cls := "BroadcastCarousel", name := "mend", desc := "(LBroadcastCarousel$Settings;LBroadcastCarousel$Program;)I" } : MethodName)) ∈ bc_wd := bc_mem 923 (by rfl) (by decide +kernel)
set_option maxRecDepth 100000 in
theorem mw_924 : (Cond.code ({ cls := "BroadcastCarousel", name := "mend", desc := "(LBroadcastCarousel$Settings;LBroadcastCarousel$Program;)I" } : MethodName) prog_1_method_43_code (4 : Nat) (Option.some ClassFile.FieldType.int)) ∈ bc_wd := bc_mem 924 (by rfl) (by decide +kernel)
set_option maxRecDepth 100000 in
theorem mw_922 : (Cond.methodLink "BroadcastCarousel" (173 : Nat) ({ cls := "BroadcastCarousel", name := "mend", desc := "(LBroadcastCarousel$Settings;LBroadcastCarousel$Program;)I" } : MethodName)) ∈ bc_wd := bc_mem 922 (by rfl) (by decide +kernel)
set_option maxRecDepth 100000 in
theorem mw_925 : (Cond.methodLink "BroadcastCarousel" (202 : Nat) ({ cls := "BroadcastCarousel$Program", name := "violators", desc := "(LBroadcastCarousel$Settings;)I" } : MethodName)) ∈ bc_wd := bc_mem 925 (by rfl) (by decide +kernel)
set_option maxRecDepth 100000 in
theorem mw_926 : (Cond.instanceMethod ({ cls := "BroadcastCarousel$Program", name := "violators", desc := "(LBroadcastCarousel$Settings;)I" } : MethodName)) ∈ bc_wd := bc_mem 926 (by rfl) (by decide +kernel)
set_option maxRecDepth 100000 in
theorem mw_927 : (Cond.selects "BroadcastCarousel$Program" ({ cls := "BroadcastCarousel$Program", name := "violators", desc := "(LBroadcastCarousel$Settings;)I" } : MethodName) ({ cls := "BroadcastCarousel$Program", name := "violators", desc := "(LBroadcastCarousel$Settings;)I" } : MethodName)) ∈ bc_wd := bc_mem 927 (by rfl) (by decide +kernel)
set_option maxRecDepth 100000 in
theorem mw_928 : (Cond.code ({ cls := "BroadcastCarousel$Program", name := "violators", desc := "(LBroadcastCarousel$Settings;)I" } : MethodName) prog_6_method_20_code (4 : Nat) (Option.some ClassFile.FieldType.int)) ∈ bc_wd := bc_mem 928 (by rfl) (by decide +kernel)
set_option maxRecDepth 100000 in
theorem mw_929 : (Cond.methodLink "BroadcastCarousel$Program" (123 : Nat) ({ cls := "BroadcastCarousel$Program", name := "widestGap", desc := "(I)I" } : MethodName)) ∈ bc_wd := bc_mem 929 (by rfl) (by decide +kernel)
set_option maxRecDepth 100000 in
theorem mw_930 : (Cond.instanceMethod ({ cls := "BroadcastCarousel$Program", name := "widestGap", desc := "(I)I" } : MethodName)) ∈ bc_wd := bc_mem 930 (by rfl) (by decide +kernel)
set_option maxRecDepth 100000 in
theorem mw_931 : (Cond.selects "BroadcastCarousel$Program" ({ cls := "BroadcastCarousel$Program", name := "widestGap", desc := "(I)I" } : MethodName) ({ cls := "BroadcastCarousel$Program", name := "widestGap", desc := "(I)I" } : MethodName)) ∈ bc_wd := bc_mem 931 (by rfl) (by decide +kernel)
set_option maxRecDepth 100000 in
theorem mw_932 : (Cond.code ({ cls := "BroadcastCarousel$Program", name := "widestGap", desc := "(I)I" } : MethodName) prog_6_method_18_code (5 : Nat) (Option.some ClassFile.FieldType.int)) ∈ bc_wd := bc_mem 932 (by rfl) (by decide +kernel)
set_option maxRecDepth 100000 in
theorem mw_933 : (Cond.methodLink "BroadcastCarousel$Program" (117 : Nat) ({ cls := "BroadcastCarousel$Program", name := "lastTime", desc := "(I)I" } : MethodName)) ∈ bc_wd := bc_mem 933 (by rfl) (by decide +kernel)
set_option maxRecDepth 100000 in
theorem mw_935 : (Cond.instanceMethod ({ cls := "BroadcastCarousel$Program", name := "lastTime", desc := "(I)I" } : MethodName)) ∈ bc_wd := bc_mem 935 (by rfl) (by decide +kernel)
theorem mw_31 : (Cond.selects "BroadcastCarousel$Program" ({ cls := "BroadcastCarousel$Program", name := "lastTime", desc := "(I)I" } : MethodName) ({ cls := "BroadcastCarousel$Program", name := "lastTime", desc := "(I)I" } : MethodName)) ∈ bc_wd := bc_mem 31 (by rfl) (by decide +kernel)
set_option maxRecDepth 100000 in
theorem mw_936 : (Cond.code ({ cls := "BroadcastCarousel$Program", name := "lastTime", desc := "(I)I" } : MethodName) prog_6_method_19_code (2 : Nat) (Option.some ClassFile.FieldType.int)) ∈ bc_wd := bc_mem 936 (by rfl) (by decide +kernel)
set_option maxRecDepth 100000 in
theorem mw_938 : (Cond.static ({ cls := "BroadcastCarousel", name := "firstToMove", desc := "(LBroadcastCarousel$Settings;I)I" } : MethodName)) ∈ bc_wd := bc_mem 938 (by rfl) (by decide +kernel)
set_option maxRecDepth 100000 in
theorem mw_939 : (Cond.code ({ cls := "BroadcastCarousel", name := "firstToMove", desc := "(LBroadcastCarousel$Settings;I)I" } : MethodName) prog_1_method_44_code (3 : Nat) (Option.some ClassFile.FieldType.int)) ∈ bc_wd := bc_mem 939 (by rfl) (by decide +kernel)
set_option maxRecDepth 100000 in
theorem mw_937 : (Cond.methodLink "BroadcastCarousel" (272 : Nat) ({ cls := "BroadcastCarousel", name := "firstToMove", desc := "(LBroadcastCarousel$Settings;I)I" } : MethodName)) ∈ bc_wd := bc_mem 937 (by rfl) (by decide +kernel)
set_option maxRecDepth 100000 in
theorem mw_940 : (Cond.methodLink "BroadcastCarousel" (240 : Nat) ({ cls := "BroadcastCarousel", name := "isIn", desc := "(II)Z" } : MethodName)) ∈ bc_wd := bc_mem 940 (by rfl) (by decide +kernel)
set_option maxRecDepth 100000 in
theorem mw_941 : (Cond.methodLink "BroadcastCarousel" (275 : Nat) ({ cls := "BroadcastCarousel$Settings", name := "fasterDisk", desc := "(I)I" } : MethodName)) ∈ bc_wd := bc_mem 941 (by rfl) (by decide +kernel)
set_option maxRecDepth 100000 in
theorem mw_942 : (Cond.instanceMethod ({ cls := "BroadcastCarousel$Settings", name := "fasterDisk", desc := "(I)I" } : MethodName)) ∈ bc_wd := bc_mem 942 (by rfl) (by decide +kernel)
set_option maxRecDepth 100000 in
theorem mw_943 : (Cond.selects "BroadcastCarousel$Settings" ({ cls := "BroadcastCarousel$Settings", name := "fasterDisk", desc := "(I)I" } : MethodName) ({ cls := "BroadcastCarousel$Settings", name := "fasterDisk", desc := "(I)I" } : MethodName)) ∈ bc_wd := bc_mem 943 (by rfl) (by decide +kernel)
set_option maxRecDepth 100000 in
theorem mw_944 : (Cond.code ({ cls := "BroadcastCarousel$Settings", name := "fasterDisk", desc := "(I)I" } : MethodName) prog_7_method_6_code (6 : Nat) (Option.some ClassFile.FieldType.int)) ∈ bc_wd := bc_mem 944 (by rfl) (by decide +kernel)
set_option maxRecDepth 100000 in
theorem mw_945 : (Cond.methodLink "BroadcastCarousel$Settings" (43 : Nat) ({ cls := "BroadcastCarousel$Settings", name := "speedOf", desc := "(I)I" } : MethodName)) ∈ bc_wd := bc_mem 945 (by rfl) (by decide +kernel)
set_option maxRecDepth 100000 in
theorem mw_953 : (Cond.methodLink "BroadcastCarousel" (180 : Nat) ({ cls := "BroadcastCarousel", name := "divideInThought", desc := "(I)V" } : MethodName)) ∈ bc_wd := bc_mem 953 (by rfl) (by decide +kernel)
set_option maxRecDepth 100000 in
theorem mw_955 : (Cond.instanceMethod ({ cls := "BroadcastCarousel", name := "divideInThought", desc := "(I)V" } : MethodName)) ∈ bc_wd := bc_mem 955 (by rfl) (by decide +kernel)
theorem mw_32 : (Cond.selects "BroadcastCarousel" ({ cls := "BroadcastCarousel", name := "divideInThought", desc := "(I)V" } : MethodName) ({ cls := "BroadcastCarousel", name := "divideInThought", desc := "(I)V" } : MethodName)) ∈ bc_wd := bc_mem 32 (by rfl) (by decide +kernel)
set_option maxRecDepth 100000 in
theorem mw_956 : (Cond.code ({ cls := "BroadcastCarousel", name := "divideInThought", desc := "(I)V" } : MethodName) prog_1_method_40_code (2 : Nat) (Option.none : Option ClassFile.FieldType)) ∈ bc_wd := bc_mem 956 (by rfl) (by decide +kernel)
set_option maxRecDepth 100000 in
theorem mw_957 : (Cond.methodLink "BroadcastCarousel" (231 : Nat) ({ cls := "BroadcastCarousel$Settings", name := "copyFrom", desc := "(LBroadcastCarousel$Settings;)V" } : MethodName)) ∈ bc_wd := bc_mem 957 (by rfl) (by decide +kernel)
set_option maxRecDepth 100000 in
theorem mw_958 : (Cond.methodLink "BroadcastCarousel" (263 : Nat) ({ cls := "BroadcastCarousel$Tiers", name := "findBest", desc := "(ILBroadcastCarousel$Settings;LBroadcastCarousel$Program;)V" } : MethodName)) ∈ bc_wd := bc_mem 958 (by rfl) (by decide +kernel)
set_option maxRecDepth 100000 in
theorem mw_959 : (Cond.instanceMethod ({ cls := "BroadcastCarousel$Tiers", name := "findBest", desc := "(ILBroadcastCarousel$Settings;LBroadcastCarousel$Program;)V" } : MethodName)) ∈ bc_wd := bc_mem 959 (by rfl) (by decide +kernel)
set_option maxRecDepth 100000 in
theorem mw_960 : (Cond.selects "BroadcastCarousel$Tiers" ({ cls := "BroadcastCarousel$Tiers", name := "findBest", desc := "(ILBroadcastCarousel$Settings;LBroadcastCarousel$Program;)V" } : MethodName) ({ cls := "BroadcastCarousel$Tiers", name := "findBest", desc := "(ILBroadcastCarousel$Settings;LBroadcastCarousel$Program;)V" } : MethodName)) ∈ bc_wd := bc_mem 960 (by rfl) (by decide +kernel)
set_option maxRecDepth 100000 in
theorem mw_112 : (Cond.initialized "BroadcastCarousel$Tiers") ∈ bc_wd := bc_mem 112 (by rfl) (by decide +kernel)
set_option maxRecDepth 100000 in
theorem mw_961 : (Cond.code ({ cls := "BroadcastCarousel$Tiers", name := "findBest", desc := "(ILBroadcastCarousel$Settings;LBroadcastCarousel$Program;)V" } : MethodName) prog_9_method_4_code (8 : Nat) (Option.none : Option ClassFile.FieldType)) ∈ bc_wd := bc_mem 961 (by rfl) (by decide +kernel)
set_option maxRecDepth 100000 in
theorem mw_962 : (Cond.methodLink "BroadcastCarousel$Tiers" (48 : Nat) ({ cls := "BroadcastCarousel$Tiers", name := "rank", desc := "(LBroadcastCarousel$Settings;)V" } : MethodName)) ∈ bc_wd := bc_mem 962 (by rfl) (by decide +kernel)
set_option maxRecDepth 100000 in
theorem mw_963 : (Cond.instanceMethod ({ cls := "BroadcastCarousel$Tiers", name := "rank", desc := "(LBroadcastCarousel$Settings;)V" } : MethodName)) ∈ bc_wd := bc_mem 963 (by rfl) (by decide +kernel)
set_option maxRecDepth 100000 in
theorem mw_964 : (Cond.selects "BroadcastCarousel$Tiers" ({ cls := "BroadcastCarousel$Tiers", name := "rank", desc := "(LBroadcastCarousel$Settings;)V" } : MethodName) ({ cls := "BroadcastCarousel$Tiers", name := "rank", desc := "(LBroadcastCarousel$Settings;)V" } : MethodName)) ∈ bc_wd := bc_mem 964 (by rfl) (by decide +kernel)
set_option maxRecDepth 100000 in
theorem mw_965 : (Cond.code ({ cls := "BroadcastCarousel$Tiers", name := "rank", desc := "(LBroadcastCarousel$Settings;)V" } : MethodName) prog_9_method_2_code (2 : Nat) (Option.none : Option ClassFile.FieldType)) ∈ bc_wd := bc_mem 965 (by rfl) (by decide +kernel)
set_option maxRecDepth 100000 in
theorem mw_967 : (Cond.static ({ cls := "BroadcastCarousel$Tiers", name := "rankByValue", desc := "([II[I)V" } : MethodName)) ∈ bc_wd := bc_mem 967 (by rfl) (by decide +kernel)
set_option maxRecDepth 100000 in
theorem mw_968 : (Cond.code ({ cls := "BroadcastCarousel$Tiers", name := "rankByValue", desc := "([II[I)V" } : MethodName) prog_9_method_3_code (5 : Nat) (Option.none : Option ClassFile.FieldType)) ∈ bc_wd := bc_mem 968 (by rfl) (by decide +kernel)
set_option maxRecDepth 100000 in
theorem mw_966 : (Cond.methodLink "BroadcastCarousel$Tiers" (39 : Nat) ({ cls := "BroadcastCarousel$Tiers", name := "rankByValue", desc := "([II[I)V" } : MethodName)) ∈ bc_wd := bc_mem 966 (by rfl) (by decide +kernel)
set_option maxRecDepth 100000 in
theorem mw_969 : (Cond.methodLink "BroadcastCarousel$Tiers" (52 : Nat) ({ cls := "BroadcastCarousel$Tiers", name := "startSizes", desc := "(II)V" } : MethodName)) ∈ bc_wd := bc_mem 969 (by rfl) (by decide +kernel)
set_option maxRecDepth 100000 in
theorem mw_971 : (Cond.instanceMethod ({ cls := "BroadcastCarousel$Tiers", name := "startSizes", desc := "(II)V" } : MethodName)) ∈ bc_wd := bc_mem 971 (by rfl) (by decide +kernel)
theorem mw_33 : (Cond.selects "BroadcastCarousel$Tiers" ({ cls := "BroadcastCarousel$Tiers", name := "startSizes", desc := "(II)V" } : MethodName) ({ cls := "BroadcastCarousel$Tiers", name := "startSizes", desc := "(II)V" } : MethodName)) ∈ bc_wd := bc_mem 33 (by rfl) (by decide +kernel)
set_option maxRecDepth 100000 in
theorem mw_972 : (Cond.code ({ cls := "BroadcastCarousel$Tiers", name := "startSizes", desc := "(II)V" } : MethodName) prog_9_method_6_code (4 : Nat) (Option.none : Option ClassFile.FieldType)) ∈ bc_wd := bc_mem 972 (by rfl) (by decide +kernel)
set_option maxRecDepth 100000 in
theorem mw_973 : (Cond.methodLink "BroadcastCarousel$Tiers" (56 : Nat) ({ cls := "BroadcastCarousel$Tiers", name := "assign", desc := "([IILBroadcastCarousel$Settings;)I" } : MethodName)) ∈ bc_wd := bc_mem 973 (by rfl) (by decide +kernel)
set_option maxRecDepth 100000 in
theorem mw_975 : (Cond.instanceMethod ({ cls := "BroadcastCarousel$Tiers", name := "assign", desc := "([IILBroadcastCarousel$Settings;)I" } : MethodName)) ∈ bc_wd := bc_mem 975 (by rfl) (by decide +kernel)
theorem mw_34 : (Cond.selects "BroadcastCarousel$Tiers" ({ cls := "BroadcastCarousel$Tiers", name := "assign", desc := "([IILBroadcastCarousel$Settings;)I" } : MethodName) ({ cls := "BroadcastCarousel$Tiers", name := "assign", desc := "([IILBroadcastCarousel$Settings;)I" } : MethodName)) ∈ bc_wd := bc_mem 34 (by rfl) (by decide +kernel)
set_option maxRecDepth 100000 in
theorem mw_976 : (Cond.code ({ cls := "BroadcastCarousel$Tiers", name := "assign", desc := "([IILBroadcastCarousel$Settings;)I" } : MethodName) prog_9_method_8_code (9 : Nat) (Option.some ClassFile.FieldType.int)) ∈ bc_wd := bc_mem 976 (by rfl) (by decide +kernel)
set_option maxRecDepth 100000 in
theorem mw_977 : (Cond.methodLink "BroadcastCarousel$Tiers" (60 : Nat) ({ cls := "BroadcastCarousel$Program", name := "build", desc := "(LBroadcastCarousel$Settings;)V" } : MethodName)) ∈ bc_wd := bc_mem 977 (by rfl) (by decide +kernel)
set_option maxRecDepth 100000 in
theorem mw_978 : (Cond.methodLink "BroadcastCarousel$Tiers" (65 : Nat) ({ cls := "BroadcastCarousel$Program", name := "weigh", desc := "(LBroadcastCarousel$Settings;I)J" } : MethodName)) ∈ bc_wd := bc_mem 978 (by rfl) (by decide +kernel)
set_option maxRecDepth 100000 in
theorem mw_979 : (Cond.instanceMethod ({ cls := "BroadcastCarousel$Program", name := "weigh", desc := "(LBroadcastCarousel$Settings;I)J" } : MethodName)) ∈ bc_wd := bc_mem 979 (by rfl) (by decide +kernel)
set_option maxRecDepth 100000 in
theorem mw_980 : (Cond.selects "BroadcastCarousel$Program" ({ cls := "BroadcastCarousel$Program", name := "weigh", desc := "(LBroadcastCarousel$Settings;I)J" } : MethodName) ({ cls := "BroadcastCarousel$Program", name := "weigh", desc := "(LBroadcastCarousel$Settings;I)J" } : MethodName)) ∈ bc_wd := bc_mem 980 (by rfl) (by decide +kernel)
set_option maxRecDepth 100000 in
theorem mw_981 : (Cond.code ({ cls := "BroadcastCarousel$Program", name := "weigh", desc := "(LBroadcastCarousel$Settings;I)J" } : MethodName) prog_6_method_21_code (9 : Nat) (Option.some ClassFile.FieldType.long)) ∈ bc_wd := bc_mem 981 (by rfl) (by decide +kernel)
set_option maxRecDepth 100000 in
theorem mw_982 : (Cond.methodLink "BroadcastCarousel$Program" (126 : Nat) ({ cls := "BroadcastCarousel$Program", name := "waitSum", desc := "(I)I" } : MethodName)) ∈ bc_wd := bc_mem 982 (by rfl) (by decide +kernel)
set_option maxRecDepth 100000 in
theorem mw_983 : (Cond.instanceMethod ({ cls := "BroadcastCarousel$Program", name := "waitSum", desc := "(I)I" } : MethodName)) ∈ bc_wd := bc_mem 983 (by rfl) (by decide +kernel)
set_option maxRecDepth 100000 in
theorem mw_984 : (Cond.selects "BroadcastCarousel$Program" ({ cls := "BroadcastCarousel$Program", name := "waitSum", desc := "(I)I" } : MethodName) ({ cls := "BroadcastCarousel$Program", name := "waitSum", desc := "(I)I" } : MethodName)) ∈ bc_wd := bc_mem 984 (by rfl) (by decide +kernel)
set_option maxRecDepth 100000 in
theorem mw_985 : (Cond.code ({ cls := "BroadcastCarousel$Program", name := "waitSum", desc := "(I)I" } : MethodName) prog_6_method_22_code (2 : Nat) (Option.some ClassFile.FieldType.int)) ∈ bc_wd := bc_mem 985 (by rfl) (by decide +kernel)
set_option maxRecDepth 100000 in
theorem mw_986 : (Cond.methodLink "BroadcastCarousel$Program" (135 : Nat) ({ cls := "BroadcastCarousel$Program", name := "waitSumByIndex", desc := "(I)I" } : MethodName)) ∈ bc_wd := bc_mem 986 (by rfl) (by decide +kernel)
set_option maxRecDepth 100000 in
theorem mw_988 : (Cond.instanceMethod ({ cls := "BroadcastCarousel$Program", name := "waitSumByIndex", desc := "(I)I" } : MethodName)) ∈ bc_wd := bc_mem 988 (by rfl) (by decide +kernel)
theorem mw_35 : (Cond.selects "BroadcastCarousel$Program" ({ cls := "BroadcastCarousel$Program", name := "waitSumByIndex", desc := "(I)I" } : MethodName) ({ cls := "BroadcastCarousel$Program", name := "waitSumByIndex", desc := "(I)I" } : MethodName)) ∈ bc_wd := bc_mem 35 (by rfl) (by decide +kernel)
set_option maxRecDepth 100000 in
theorem mw_989 : (Cond.code ({ cls := "BroadcastCarousel$Program", name := "waitSumByIndex", desc := "(I)I" } : MethodName) prog_6_method_24_code (10 : Nat) (Option.some ClassFile.FieldType.int)) ∈ bc_wd := bc_mem 989 (by rfl) (by decide +kernel)
set_option maxRecDepth 100000 in
theorem mw_990 : (Cond.methodLink "BroadcastCarousel$Program" (138 : Nat) ({ cls := "BroadcastCarousel$Program", name := "waitSumByGaps", desc := "(I)I" } : MethodName)) ∈ bc_wd := bc_mem 990 (by rfl) (by decide +kernel)
set_option maxRecDepth 100000 in
theorem mw_992 : (Cond.instanceMethod ({ cls := "BroadcastCarousel$Program", name := "waitSumByGaps", desc := "(I)I" } : MethodName)) ∈ bc_wd := bc_mem 992 (by rfl) (by decide +kernel)
theorem mw_36 : (Cond.selects "BroadcastCarousel$Program" ({ cls := "BroadcastCarousel$Program", name := "waitSumByGaps", desc := "(I)I" } : MethodName) ({ cls := "BroadcastCarousel$Program", name := "waitSumByGaps", desc := "(I)I" } : MethodName)) ∈ bc_wd := bc_mem 36 (by rfl) (by decide +kernel)
set_option maxRecDepth 100000 in
theorem mw_993 : (Cond.code ({ cls := "BroadcastCarousel$Program", name := "waitSumByGaps", desc := "(I)I" } : MethodName) prog_6_method_23_code (6 : Nat) (Option.some ClassFile.FieldType.int)) ∈ bc_wd := bc_mem 993 (by rfl) (by decide +kernel)
set_option maxRecDepth 100000 in
theorem mw_994 : (Cond.methodLink "BroadcastCarousel$Program" (129 : Nat) ({ cls := "BroadcastCarousel$Program", name := "listeningSum", desc := "(II)I" } : MethodName)) ∈ bc_wd := bc_mem 994 (by rfl) (by decide +kernel)
set_option maxRecDepth 100000 in
theorem mw_996 : (Cond.instanceMethod ({ cls := "BroadcastCarousel$Program", name := "listeningSum", desc := "(II)I" } : MethodName)) ∈ bc_wd := bc_mem 996 (by rfl) (by decide +kernel)
theorem mw_37 : (Cond.selects "BroadcastCarousel$Program" ({ cls := "BroadcastCarousel$Program", name := "listeningSum", desc := "(II)I" } : MethodName) ({ cls := "BroadcastCarousel$Program", name := "listeningSum", desc := "(II)I" } : MethodName)) ∈ bc_wd := bc_mem 37 (by rfl) (by decide +kernel)
set_option maxRecDepth 100000 in
theorem mw_997 : (Cond.code ({ cls := "BroadcastCarousel$Program", name := "listeningSum", desc := "(II)I" } : MethodName) prog_6_method_25_code (4 : Nat) (Option.some ClassFile.FieldType.int)) ∈ bc_wd := bc_mem 997 (by rfl) (by decide +kernel)
set_option maxRecDepth 100000 in
theorem mw_999 : (Cond.methodLink "BroadcastCarousel$Tiers" (78 : Nat) ({ cls := "BroadcastCarousel$Tiers", name := "nextSizes", desc := "(I)Z" } : MethodName)) ∈ bc_wd := bc_mem 999 (by rfl) (by decide +kernel)
set_option maxRecDepth 100000 in
theorem mw_1001 : (Cond.instanceMethod ({ cls := "BroadcastCarousel$Tiers", name := "nextSizes", desc := "(I)Z" } : MethodName)) ∈ bc_wd := bc_mem 1001 (by rfl) (by decide +kernel)
theorem mw_38 : (Cond.selects "BroadcastCarousel$Tiers" ({ cls := "BroadcastCarousel$Tiers", name := "nextSizes", desc := "(I)Z" } : MethodName) ({ cls := "BroadcastCarousel$Tiers", name := "nextSizes", desc := "(I)Z" } : MethodName)) ∈ bc_wd := bc_mem 38 (by rfl) (by decide +kernel)
set_option maxRecDepth 100000 in
theorem mw_1002 : (Cond.code ({ cls := "BroadcastCarousel$Tiers", name := "nextSizes", desc := "(I)Z" } : MethodName) prog_9_method_7_code (6 : Nat) (Option.some ClassFile.FieldType.boolean)) ∈ bc_wd := bc_mem 1002 (by rfl) (by decide +kernel)
set_option maxRecDepth 100000 in
theorem mw_1003 : (Cond.methodLink "BroadcastCarousel" (183 : Nat) ({ cls := "BroadcastCarousel$Tiers", name := "applyBest", desc := "(LBroadcastCarousel$Settings;I)I" } : MethodName)) ∈ bc_wd := bc_mem 1003 (by rfl) (by decide +kernel)
set_option maxRecDepth 100000 in
theorem mw_1004 : (Cond.instanceMethod ({ cls := "BroadcastCarousel$Tiers", name := "applyBest", desc := "(LBroadcastCarousel$Settings;I)I" } : MethodName)) ∈ bc_wd := bc_mem 1004 (by rfl) (by decide +kernel)
set_option maxRecDepth 100000 in
theorem mw_1005 : (Cond.selects "BroadcastCarousel$Tiers" ({ cls := "BroadcastCarousel$Tiers", name := "applyBest", desc := "(LBroadcastCarousel$Settings;I)I" } : MethodName) ({ cls := "BroadcastCarousel$Tiers", name := "applyBest", desc := "(LBroadcastCarousel$Settings;I)I" } : MethodName)) ∈ bc_wd := bc_mem 1005 (by rfl) (by decide +kernel)
set_option maxRecDepth 100000 in
theorem mw_1006 : (Cond.code ({ cls := "BroadcastCarousel$Tiers", name := "applyBest", desc := "(LBroadcastCarousel$Settings;I)I" } : MethodName) prog_9_method_5_code (3 : Nat) (Option.some ClassFile.FieldType.int)) ∈ bc_wd := bc_mem 1006 (by rfl) (by decide +kernel)
set_option maxRecDepth 100000 in
theorem mw_1043 : (Cond.methodLink "BroadcastCarousel" (188 : Nat) ({ cls := "BroadcastCarousel$Program", name := "contentAt", desc := "(II)I" } : MethodName)) ∈ bc_wd := bc_mem 1043 (by rfl) (by decide +kernel)
set_option maxRecDepth 100000 in
theorem mw_1044 : (Cond.instanceMethod ({ cls := "BroadcastCarousel$Program", name := "contentAt", desc := "(II)I" } : MethodName)) ∈ bc_wd := bc_mem 1044 (by rfl) (by decide +kernel)
set_option maxRecDepth 100000 in
theorem mw_1045 : (Cond.selects "BroadcastCarousel$Program" ({ cls := "BroadcastCarousel$Program", name := "contentAt", desc := "(II)I" } : MethodName) ({ cls := "BroadcastCarousel$Program", name := "contentAt", desc := "(II)I" } : MethodName)) ∈ bc_wd := bc_mem 1045 (by rfl) (by decide +kernel)
set_option maxRecDepth 100000 in
theorem mw_1046 : (Cond.code ({ cls := "BroadcastCarousel$Program", name := "contentAt", desc := "(II)I" } : MethodName) prog_6_method_11_code (5 : Nat) (Option.some ClassFile.FieldType.int)) ∈ bc_wd := bc_mem 1046 (by rfl) (by decide +kernel)
set_option maxRecDepth 100000 in
theorem mw_1068 : (Cond.methodLink "BroadcastCarousel" (198 : Nat) ({ cls := "BroadcastCarousel$Program", name := "widestGap", desc := "(I)I" } : MethodName)) ∈ bc_wd := bc_mem 1068 (by rfl) (by decide +kernel)
set_option maxRecDepth 100000 in
theorem mw_1083 : (Cond.methodLink "BroadcastCarousel" (206 : Nat) ({ cls := "BroadcastCarousel$Program", name := "firstFrom", desc := "(II)I" } : MethodName)) ∈ bc_wd := bc_mem 1083 (by rfl) (by decide +kernel)
set_option maxRecDepth 100000 in
theorem mw_1091 : (Cond.methodLink "BroadcastCarousel" (209 : Nat) ({ cls := "BroadcastCarousel", name := "perSlot", desc := "(I)D" } : MethodName)) ∈ bc_wd := bc_mem 1091 (by rfl) (by decide +kernel)
set_option maxRecDepth 100000 in
theorem mw_1093 : (Cond.instanceMethod ({ cls := "BroadcastCarousel", name := "perSlot", desc := "(I)D" } : MethodName)) ∈ bc_wd := bc_mem 1093 (by rfl) (by decide +kernel)
theorem mw_39 : (Cond.selects "BroadcastCarousel" ({ cls := "BroadcastCarousel", name := "perSlot", desc := "(I)D" } : MethodName) ({ cls := "BroadcastCarousel", name := "perSlot", desc := "(I)D" } : MethodName)) ∈ bc_wd := bc_mem 39 (by rfl) (by decide +kernel)
set_option maxRecDepth 100000 in
theorem mw_1094 : (Cond.code ({ cls := "BroadcastCarousel", name := "perSlot", desc := "(I)D" } : MethodName) prog_1_method_66_code (3 : Nat) (Option.some ClassFile.FieldType.double)) ∈ bc_wd := bc_mem 1094 (by rfl) (by decide +kernel)
set_option maxRecDepth 100000 in
theorem mw_1102 : (Cond.methodLink "BroadcastCarousel" (213 : Nat) ({ cls := "BroadcastCarousel$Program", name := "waitFor", desc := "(II)I" } : MethodName)) ∈ bc_wd := bc_mem 1102 (by rfl) (by decide +kernel)
set_option maxRecDepth 100000 in
theorem mw_1110 : (Cond.methodLink "BroadcastCarousel" (216 : Nat) ({ cls := "BroadcastCarousel$Program", name := "listeningFor", desc := "(II)I" } : MethodName)) ∈ bc_wd := bc_mem 1110 (by rfl) (by decide +kernel)
set_option maxRecDepth 100000 in
theorem mw_1118 : (Cond.methodLink "BroadcastCarousel" (219 : Nat) ({ cls := "java/lang/Math", name := "max", desc := "(II)I" } : MethodName)) ∈ bc_wd := bc_mem 1118 (by rfl) (by decide +kernel)
set_option maxRecDepth 100000 in
theorem mw_1126 : (Cond.methodLink "BroadcastCarousel" (224 : Nat) ({ cls := "BroadcastCarousel$Program", name := "weigh", desc := "(LBroadcastCarousel$Settings;I)J" } : MethodName)) ∈ bc_wd := bc_mem 1126 (by rfl) (by decide +kernel)
set_option maxRecDepth 100000 in
theorem mw_1134 : (Cond.methodLink "BroadcastCarousel" (228 : Nat) ({ cls := "BroadcastCarousel$Program", name := "waitSum", desc := "(I)I" } : MethodName)) ∈ bc_wd := bc_mem 1134 (by rfl) (by decide +kernel)
set_option maxRecDepth 100000 in
theorem mw_1149 : (Cond.methodLink "BroadcastCarousel" (233 : Nat) ({ cls := "BroadcastCarousel", name := "needSet", desc := "(II)V" } : MethodName)) ∈ bc_wd := bc_mem 1149 (by rfl) (by decide +kernel)
set_option maxRecDepth 100000 in
theorem mw_1151 : (Cond.instanceMethod ({ cls := "BroadcastCarousel", name := "needSet", desc := "(II)V" } : MethodName)) ∈ bc_wd := bc_mem 1151 (by rfl) (by decide +kernel)
theorem mw_40 : (Cond.selects "BroadcastCarousel" ({ cls := "BroadcastCarousel", name := "needSet", desc := "(II)V" } : MethodName) ({ cls := "BroadcastCarousel", name := "needSet", desc := "(II)V" } : MethodName)) ∈ bc_wd := bc_mem 40 (by rfl) (by decide +kernel)
set_option maxRecDepth 100000 in
theorem mw_1152 : (Cond.code ({ cls := "BroadcastCarousel", name := "needSet", desc := "(II)V" } : MethodName) prog_1_method_63_code (3 : Nat) (Option.none : Option ClassFile.FieldType)) ∈ bc_wd := bc_mem 1152 (by rfl) (by decide +kernel)
set_option maxRecDepth 100000 in
theorem mw_1153 : (Cond.methodLink "BroadcastCarousel" (267 : Nat) ({ cls := "java/lang/Integer", name := "bitCount", desc := "(I)I" } : MethodName)) ∈ bc_wd := bc_mem 1153 (by rfl) (by decide +kernel)
set_option maxRecDepth 100000 in
theorem mw_1154 : (Cond.methodLink "BroadcastCarousel" (237 : Nat) ({ cls := "BroadcastCarousel", name := "waitsFor", desc := "(II)I" } : MethodName)) ∈ bc_wd := bc_mem 1154 (by rfl) (by decide +kernel)
set_option maxRecDepth 100000 in
theorem mw_1156 : (Cond.instanceMethod ({ cls := "BroadcastCarousel", name := "waitsFor", desc := "(II)I" } : MethodName)) ∈ bc_wd := bc_mem 1156 (by rfl) (by decide +kernel)
theorem mw_41 : (Cond.selects "BroadcastCarousel" ({ cls := "BroadcastCarousel", name := "waitsFor", desc := "(II)I" } : MethodName) ({ cls := "BroadcastCarousel", name := "waitsFor", desc := "(II)I" } : MethodName)) ∈ bc_wd := bc_mem 41 (by rfl) (by decide +kernel)
set_option maxRecDepth 100000 in
theorem mw_1157 : (Cond.code ({ cls := "BroadcastCarousel", name := "waitsFor", desc := "(II)I" } : MethodName) prog_1_method_34_code (5 : Nat) (Option.some ClassFile.FieldType.int)) ∈ bc_wd := bc_mem 1157 (by rfl) (by decide +kernel)
set_option maxRecDepth 100000 in
theorem mw_1174 : (Cond.static ({ cls := "BroadcastCarousel", name := "needPlace", desc := "(II)V" } : MethodName)) ∈ bc_wd := bc_mem 1174 (by rfl) (by decide +kernel)
set_option maxRecDepth 100000 in
theorem mw_1175 : (Cond.code ({ cls := "BroadcastCarousel", name := "needPlace", desc := "(II)V" } : MethodName) prog_1_method_64_code (2 : Nat) (Option.none : Option ClassFile.FieldType)) ∈ bc_wd := bc_mem 1175 (by rfl) (by decide +kernel)
set_option maxRecDepth 100000 in
theorem mw_1173 : (Cond.methodLink "BroadcastCarousel" (244 : Nat) ({ cls := "BroadcastCarousel", name := "needPlace", desc := "(II)V" } : MethodName)) ∈ bc_wd := bc_mem 1173 (by rfl) (by decide +kernel)
set_option maxRecDepth 100000 in
theorem mw_1177 : (Cond.static ({ cls := "BroadcastCarousel", name := "needNotNegative", desc := "(I)V" } : MethodName)) ∈ bc_wd := bc_mem 1177 (by rfl) (by decide +kernel)
set_option maxRecDepth 100000 in
theorem mw_1178 : (Cond.code ({ cls := "BroadcastCarousel", name := "needNotNegative", desc := "(I)V" } : MethodName) prog_1_method_59_code (1 : Nat) (Option.none : Option ClassFile.FieldType)) ∈ bc_wd := bc_mem 1178 (by rfl) (by decide +kernel)
set_option maxRecDepth 100000 in
theorem mw_1176 : (Cond.methodLink "BroadcastCarousel" (325 : Nat) ({ cls := "BroadcastCarousel", name := "needNotNegative", desc := "(I)V" } : MethodName)) ∈ bc_wd := bc_mem 1176 (by rfl) (by decide +kernel)
set_option maxRecDepth 100000 in
theorem mw_1196 : (Cond.methodLink "BroadcastCarousel" (247 : Nat) ({ cls := "BroadcastCarousel$Tiers", name := "rank", desc := "(LBroadcastCarousel$Settings;)V" } : MethodName)) ∈ bc_wd := bc_mem 1196 (by rfl) (by decide +kernel)
set_option maxRecDepth 100000 in
theorem mw_1268 : (Cond.methodLink "BroadcastCarousel" (302 : Nat) ({ cls := "BroadcastCarousel$Client", name := "copyFrom", desc := "(LBroadcastCarousel$Client;)V" } : MethodName)) ∈ bc_wd := bc_mem 1268 (by rfl) (by decide +kernel)
set_option maxRecDepth 100000 in
theorem mw_1269 : (Cond.methodLink "BroadcastCarousel" (305 : Nat) ({ cls := "BroadcastCarousel$Client", name := "note", desc := "(I)V" } : MethodName)) ∈ bc_wd := bc_mem 1269 (by rfl) (by decide +kernel)
set_option maxRecDepth 100000 in
theorem mw_1270 : (Cond.methodLink "BroadcastCarousel" (308 : Nat) ({ cls := "BroadcastCarousel$Client", name := bc_nmX0_6, desc := "(ILBroadcastCarousel$Settings;)I" } : MethodName)) ∈ bc_wd := bc_mem 1270 (by rfl) (by decide +kernel)
set_option maxRecDepth 100000 in
theorem mw_1278 : (Cond.methodLink "BroadcastCarousel" (312 : Nat) ({ cls := "BroadcastCarousel", name := "lowestOf", desc := "(I)I" } : MethodName)) ∈ bc_wd := bc_mem 1278 (by rfl) (by decide +kernel)
set_option maxRecDepth 100000 in
theorem mw_1280 : (Cond.instanceMethod ({ cls := "BroadcastCarousel", name := "lowestOf", desc := "(I)I" } : MethodName)) ∈ bc_wd := bc_mem 1280 (by rfl) (by decide +kernel)
theorem mw_42 : (Cond.selects "BroadcastCarousel" ({ cls := "BroadcastCarousel", name := "lowestOf", desc := "(I)I" } : MethodName) ({ cls := "BroadcastCarousel", name := "lowestOf", desc := "(I)I" } : MethodName)) ∈ bc_wd := bc_mem 42 (by rfl) (by decide +kernel)
set_option maxRecDepth 100000 in
theorem mw_1281 : (Cond.code ({ cls := "BroadcastCarousel", name := "lowestOf", desc := "(I)I" } : MethodName) prog_1_method_52_code (3 : Nat) (Option.some ClassFile.FieldType.int)) ∈ bc_wd := bc_mem 1281 (by rfl) (by decide +kernel)
set_option maxRecDepth 100000 in
theorem mw_1282 : (Cond.methodLink "BroadcastCarousel" (315 : Nat) ({ cls := "BroadcastCarousel", name := "nearest", desc := "(II)I" } : MethodName)) ∈ bc_wd := bc_mem 1282 (by rfl) (by decide +kernel)
set_option maxRecDepth 100000 in
theorem mw_1284 : (Cond.instanceMethod ({ cls := "BroadcastCarousel", name := "nearest", desc := "(II)I" } : MethodName)) ∈ bc_wd := bc_mem 1284 (by rfl) (by decide +kernel)
theorem mw_43 : (Cond.selects "BroadcastCarousel" ({ cls := "BroadcastCarousel", name := "nearest", desc := "(II)I" } : MethodName) ({ cls := "BroadcastCarousel", name := "nearest", desc := "(II)I" } : MethodName)) ∈ bc_wd := bc_mem 43 (by rfl) (by decide +kernel)
set_option maxRecDepth 100000 in
theorem mw_1285 : (Cond.code ({ cls := "BroadcastCarousel", name := "nearest", desc := "(II)I" } : MethodName) prog_1_method_53_code (7 : Nat) (Option.some ClassFile.FieldType.int)) ∈ bc_wd := bc_mem 1285 (by rfl) (by decide +kernel)
set_option maxRecDepth 100000 in
theorem mw_1300 : (Cond.methodLink "BroadcastCarousel" (318 : Nat) ({ cls := "BroadcastCarousel$Plan", name := "find", desc := "(LBroadcastCarousel$Client;ILBroadcastCarousel$Settings;LBroadcastCarousel$Program;)V" } : MethodName)) ∈ bc_wd := bc_mem 1300 (by rfl) (by decide +kernel)
set_option maxRecDepth 100000 in
theorem mw_1301 : (Cond.instanceMethod ({ cls := "BroadcastCarousel$Plan", name := "find", desc := "(LBroadcastCarousel$Client;ILBroadcastCarousel$Settings;LBroadcastCarousel$Program;)V" } : MethodName)) ∈ bc_wd := bc_mem 1301 (by rfl) (by decide +kernel)
set_option maxRecDepth 100000 in
theorem mw_1302 : (Cond.selects "BroadcastCarousel$Plan" ({ cls := "BroadcastCarousel$Plan", name := "find", desc := "(LBroadcastCarousel$Client;ILBroadcastCarousel$Settings;LBroadcastCarousel$Program;)V" } : MethodName) ({ cls := "BroadcastCarousel$Plan", name := "find", desc := "(LBroadcastCarousel$Client;ILBroadcastCarousel$Settings;LBroadcastCarousel$Program;)V" } : MethodName)) ∈ bc_wd := bc_mem 1302 (by rfl) (by decide +kernel)
set_option maxRecDepth 100000 in
theorem mw_113 : (Cond.initialized "BroadcastCarousel$Plan") ∈ bc_wd := bc_mem 113 (by rfl) (by decide +kernel)
set_option maxRecDepth 100000 in
theorem mw_1303 : (Cond.code ({ cls := "BroadcastCarousel$Plan", name := "find", desc := "(LBroadcastCarousel$Client;ILBroadcastCarousel$Settings;LBroadcastCarousel$Program;)V" } : MethodName) prog_5_method_2_code (8 : Nat) (Option.none : Option ClassFile.FieldType)) ∈ bc_wd := bc_mem 1303 (by rfl) (by decide +kernel)
set_option maxRecDepth 100000 in
theorem mw_1304 : (Cond.methodLink "BroadcastCarousel$Plan" (37 : Nat) ({ cls := "BroadcastCarousel$Plan", name := "firstOrder", desc := "(II)V" } : MethodName)) ∈ bc_wd := bc_mem 1304 (by rfl) (by decide +kernel)
set_option maxRecDepth 100000 in
theorem mw_1306 : (Cond.instanceMethod ({ cls := "BroadcastCarousel$Plan", name := "firstOrder", desc := "(II)V" } : MethodName)) ∈ bc_wd := bc_mem 1306 (by rfl) (by decide +kernel)
theorem mw_44 : (Cond.selects "BroadcastCarousel$Plan" ({ cls := "BroadcastCarousel$Plan", name := "firstOrder", desc := "(II)V" } : MethodName) ({ cls := "BroadcastCarousel$Plan", name := "firstOrder", desc := "(II)V" } : MethodName)) ∈ bc_wd := bc_mem 44 (by rfl) (by decide +kernel)
set_option maxRecDepth 100000 in
theorem mw_1307 : (Cond.code ({ cls := "BroadcastCarousel$Plan", name := "firstOrder", desc := "(II)V" } : MethodName) prog_5_method_3_code (4 : Nat) (Option.none : Option ClassFile.FieldType)) ∈ bc_wd := bc_mem 1307 (by rfl) (by decide +kernel)
set_option maxRecDepth 100000 in
theorem mw_1309 : (Cond.methodLink "BroadcastCarousel$Plan" (41 : Nat) ({ cls := "BroadcastCarousel$Plan", name := "timeAfter", desc := "(LBroadcastCarousel$Client;LBroadcastCarousel$Settings;LBroadcastCarousel$Program;)I" } : MethodName)) ∈ bc_wd := bc_mem 1309 (by rfl) (by decide +kernel)
set_option maxRecDepth 100000 in
theorem mw_1311 : (Cond.instanceMethod ({ cls := "BroadcastCarousel$Plan", name := "timeAfter", desc := "(LBroadcastCarousel$Client;LBroadcastCarousel$Settings;LBroadcastCarousel$Program;)I" } : MethodName)) ∈ bc_wd := bc_mem 1311 (by rfl) (by decide +kernel)
theorem mw_45 : (Cond.selects "BroadcastCarousel$Plan" ({ cls := "BroadcastCarousel$Plan", name := "timeAfter", desc := "(LBroadcastCarousel$Client;LBroadcastCarousel$Settings;LBroadcastCarousel$Program;)I" } : MethodName) ({ cls := "BroadcastCarousel$Plan", name := "timeAfter", desc := "(LBroadcastCarousel$Client;LBroadcastCarousel$Settings;LBroadcastCarousel$Program;)I" } : MethodName)) ∈ bc_wd := bc_mem 45 (by rfl) (by decide +kernel)
set_option maxRecDepth 100000 in
theorem mw_1312 : (Cond.code ({ cls := "BroadcastCarousel$Plan", name := "timeAfter", desc := "(LBroadcastCarousel$Client;LBroadcastCarousel$Settings;LBroadcastCarousel$Program;)I" } : MethodName) prog_5_method_4_code (5 : Nat) (Option.some ClassFile.FieldType.int)) ∈ bc_wd := bc_mem 1312 (by rfl) (by decide +kernel)
set_option maxRecDepth 100000 in
theorem mw_1313 : (Cond.methodLink "BroadcastCarousel$Plan" (59 : Nat) ({ cls := "BroadcastCarousel$Client", name := "copyFrom", desc := "(LBroadcastCarousel$Client;)V" } : MethodName)) ∈ bc_wd := bc_mem 1313 (by rfl) (by decide +kernel)
set_option maxRecDepth 100000 in
theorem mw_1314 : (Cond.methodLink "BroadcastCarousel$Plan" (63 : Nat) ({ cls := "BroadcastCarousel$Client", name := "ask", desc := "(ILBroadcastCarousel$Settings;LBroadcastCarousel$Program;)I" } : MethodName)) ∈ bc_wd := bc_mem 1314 (by rfl) (by decide +kernel)
set_option maxRecDepth 100000 in
theorem mw_1316 : (Cond.methodLink "BroadcastCarousel$Plan" (51 : Nat) ({ cls := "BroadcastCarousel$Plan", name := "nextOrder", desc := "()Z" } : MethodName)) ∈ bc_wd := bc_mem 1316 (by rfl) (by decide +kernel)
set_option maxRecDepth 100000 in
theorem mw_1318 : (Cond.instanceMethod ({ cls := "BroadcastCarousel$Plan", name := "nextOrder", desc := "()Z" } : MethodName)) ∈ bc_wd := bc_mem 1318 (by rfl) (by decide +kernel)
theorem mw_46 : (Cond.selects "BroadcastCarousel$Plan" ({ cls := "BroadcastCarousel$Plan", name := "nextOrder", desc := "()Z" } : MethodName) ({ cls := "BroadcastCarousel$Plan", name := "nextOrder", desc := "()Z" } : MethodName)) ∈ bc_wd := bc_mem 46 (by rfl) (by decide +kernel)
set_option maxRecDepth 100000 in
theorem mw_1319 : (Cond.code ({ cls := "BroadcastCarousel$Plan", name := "nextOrder", desc := "()Z" } : MethodName) prog_5_method_5_code (3 : Nat) (Option.some ClassFile.FieldType.boolean)) ∈ bc_wd := bc_mem 1319 (by rfl) (by decide +kernel)
set_option maxRecDepth 100000 in
theorem mw_1320 : (Cond.methodLink "BroadcastCarousel$Plan" (70 : Nat) ({ cls := "BroadcastCarousel$Plan", name := "swap", desc := "(II)V" } : MethodName)) ∈ bc_wd := bc_mem 1320 (by rfl) (by decide +kernel)
set_option maxRecDepth 100000 in
theorem mw_1322 : (Cond.instanceMethod ({ cls := "BroadcastCarousel$Plan", name := "swap", desc := "(II)V" } : MethodName)) ∈ bc_wd := bc_mem 1322 (by rfl) (by decide +kernel)
theorem mw_47 : (Cond.selects "BroadcastCarousel$Plan" ({ cls := "BroadcastCarousel$Plan", name := "swap", desc := "(II)V" } : MethodName) ({ cls := "BroadcastCarousel$Plan", name := "swap", desc := "(II)V" } : MethodName)) ∈ bc_wd := bc_mem 47 (by rfl) (by decide +kernel)
set_option maxRecDepth 100000 in
theorem mw_1323 : (Cond.code ({ cls := "BroadcastCarousel$Plan", name := "swap", desc := "(II)V" } : MethodName) prog_5_method_7_code (4 : Nat) (Option.none : Option ClassFile.FieldType)) ∈ bc_wd := bc_mem 1323 (by rfl) (by decide +kernel)
set_option maxRecDepth 100000 in
theorem mw_1324 : (Cond.methodLink "BroadcastCarousel$Plan" (73 : Nat) ({ cls := "BroadcastCarousel$Plan", name := "reverseFrom", desc := "(I)V" } : MethodName)) ∈ bc_wd := bc_mem 1324 (by rfl) (by decide +kernel)
set_option maxRecDepth 100000 in
theorem mw_1326 : (Cond.instanceMethod ({ cls := "BroadcastCarousel$Plan", name := "reverseFrom", desc := "(I)V" } : MethodName)) ∈ bc_wd := bc_mem 1326 (by rfl) (by decide +kernel)
theorem mw_48 : (Cond.selects "BroadcastCarousel$Plan" ({ cls := "BroadcastCarousel$Plan", name := "reverseFrom", desc := "(I)V" } : MethodName) ({ cls := "BroadcastCarousel$Plan", name := "reverseFrom", desc := "(I)V" } : MethodName)) ∈ bc_wd := bc_mem 48 (by rfl) (by decide +kernel)
set_option maxRecDepth 100000 in
theorem mw_1327 : (Cond.code ({ cls := "BroadcastCarousel$Plan", name := "reverseFrom", desc := "(I)V" } : MethodName) prog_5_method_6_code (4 : Nat) (Option.none : Option ClassFile.FieldType)) ∈ bc_wd := bc_mem 1327 (by rfl) (by decide +kernel)
set_option maxRecDepth 100000 in
theorem mw_1342 : (Cond.methodLink "BroadcastCarousel" (334 : Nat) ({ cls := "BroadcastCarousel$History", name := "restore", desc := "(LBroadcastCarousel$State;)V" } : MethodName)) ∈ bc_wd := bc_mem 1342 (by rfl) (by decide +kernel)
set_option maxRecDepth 100000 in
theorem mw_1343 : (Cond.instanceMethod ({ cls := "BroadcastCarousel$History", name := "restore", desc := "(LBroadcastCarousel$State;)V" } : MethodName)) ∈ bc_wd := bc_mem 1343 (by rfl) (by decide +kernel)
set_option maxRecDepth 100000 in
theorem mw_1344 : (Cond.selects "BroadcastCarousel$History" ({ cls := "BroadcastCarousel$History", name := "restore", desc := "(LBroadcastCarousel$State;)V" } : MethodName) ({ cls := "BroadcastCarousel$History", name := "restore", desc := "(LBroadcastCarousel$State;)V" } : MethodName)) ∈ bc_wd := bc_mem 1344 (by rfl) (by decide +kernel)
set_option maxRecDepth 100000 in
theorem mw_1345 : (Cond.code ({ cls := "BroadcastCarousel$History", name := "restore", desc := "(LBroadcastCarousel$State;)V" } : MethodName) prog_3_method_4_code (2 : Nat) (Option.none : Option ClassFile.FieldType)) ∈ bc_wd := bc_mem 1345 (by rfl) (by decide +kernel)
set_option maxRecDepth 100000 in
theorem mw_1487 : (Cond.methodLink "BroadcastCarouselModel" (88 : Nat) ({ cls := "BroadcastCarouselModel", name := "put", desc := "(I)V" } : MethodName)) ∈ bc_wd := bc_mem 1487 (by rfl) (by decide +kernel)
set_option maxRecDepth 100000 in
theorem mw_1489 : (Cond.instanceMethod ({ cls := "BroadcastCarouselModel", name := "put", desc := "(I)V" } : MethodName)) ∈ bc_wd := bc_mem 1489 (by rfl) (by decide +kernel)
theorem mw_49 : (Cond.selects "BroadcastCarouselModel" ({ cls := "BroadcastCarouselModel", name := "put", desc := "(I)V" } : MethodName) ({ cls := "BroadcastCarouselModel", name := "put", desc := "(I)V" } : MethodName)) ∈ bc_wd := bc_mem 49 (by rfl) (by decide +kernel)
set_option maxRecDepth 100000 in
theorem mw_114 : (Cond.initialized "BroadcastCarouselModel") ∈ bc_wd := bc_mem 114 (by rfl) (by decide +kernel)
set_option maxRecDepth 100000 in
theorem mw_1490 : (Cond.code ({ cls := "BroadcastCarouselModel", name := "put", desc := "(I)V" } : MethodName) prog_11_method_10_code (3 : Nat) (Option.none : Option ClassFile.FieldType)) ∈ bc_wd := bc_mem 1490 (by rfl) (by decide +kernel)
set_option maxRecDepth 100000 in
theorem mw_1496 : (Cond.static ({ cls := "BroadcastCarouselModel", name := "isIn", desc := "(JJJ)Z" } : MethodName)) ∈ bc_wd := bc_mem 1496 (by rfl) (by decide +kernel)
set_option maxRecDepth 100000 in
theorem mw_1497 : (Cond.code ({ cls := "BroadcastCarouselModel", name := "isIn", desc := "(JJJ)Z" } : MethodName) prog_11_method_3_code (6 : Nat) (Option.some ClassFile.FieldType.boolean)) ∈ bc_wd := bc_mem 1497 (by rfl) (by decide +kernel)
set_option maxRecDepth 100000 in
theorem mw_1495 : (Cond.methodLink "BroadcastCarouselModel" (75 : Nat) ({ cls := "BroadcastCarouselModel", name := "isIn", desc := "(JJJ)Z" } : MethodName)) ∈ bc_wd := bc_mem 1495 (by rfl) (by decide +kernel)
set_option maxRecDepth 100000 in
theorem mw_1502 : (Cond.methodLink "BroadcastCarouselModel" (146 : Nat) ({ cls := "BroadcastCarouselModel", name := "next", desc := "()V" } : MethodName)) ∈ bc_wd := bc_mem 1502 (by rfl) (by decide +kernel)
set_option maxRecDepth 100000 in
theorem mw_1504 : (Cond.instanceMethod ({ cls := "BroadcastCarouselModel", name := "next", desc := "()V" } : MethodName)) ∈ bc_wd := bc_mem 1504 (by rfl) (by decide +kernel)
theorem mw_50 : (Cond.selects "BroadcastCarouselModel" ({ cls := "BroadcastCarouselModel", name := "next", desc := "()V" } : MethodName) ({ cls := "BroadcastCarouselModel", name := "next", desc := "()V" } : MethodName)) ∈ bc_wd := bc_mem 50 (by rfl) (by decide +kernel)
set_option maxRecDepth 100000 in
theorem mw_1505 : (Cond.code ({ cls := "BroadcastCarouselModel", name := "next", desc := "()V" } : MethodName) prog_11_method_17_code (1 : Nat) (Option.none : Option ClassFile.FieldType)) ∈ bc_wd := bc_mem 1505 (by rfl) (by decide +kernel)
set_option maxRecDepth 100000 in
theorem mw_1506 : (Cond.methodLink "BroadcastCarouselModel" (110 : Nat) ({ cls := "BroadcastCarouselModel", name := "isFine", desc := "()Z" } : MethodName)) ∈ bc_wd := bc_mem 1506 (by rfl) (by decide +kernel)
set_option maxRecDepth 100000 in
theorem mw_1508 : (Cond.instanceMethod ({ cls := "BroadcastCarouselModel", name := "isFine", desc := "()Z" } : MethodName)) ∈ bc_wd := bc_mem 1508 (by rfl) (by decide +kernel)
theorem mw_51 : (Cond.selects "BroadcastCarouselModel" ({ cls := "BroadcastCarouselModel", name := "isFine", desc := "()Z" } : MethodName) ({ cls := "BroadcastCarouselModel", name := "isFine", desc := "()Z" } : MethodName)) ∈ bc_wd := bc_mem 51 (by rfl) (by decide +kernel)
set_option maxRecDepth 100000 in
theorem mw_1509 : (Cond.code ({ cls := "BroadcastCarouselModel", name := "isFine", desc := "()Z" } : MethodName) prog_11_method_16_code (1 : Nat) (Option.some ClassFile.FieldType.boolean)) ∈ bc_wd := bc_mem 1509 (by rfl) (by decide +kernel)
set_option maxRecDepth 100000 in
theorem mw_1510 : (Cond.methodLink "BroadcastCarouselModel" (95 : Nat) ({ cls := "BroadcastCarouselModel", name := "byteAt", desc := "(I)I" } : MethodName)) ∈ bc_wd := bc_mem 1510 (by rfl) (by decide +kernel)
set_option maxRecDepth 100000 in
theorem mw_1512 : (Cond.instanceMethod ({ cls := "BroadcastCarouselModel", name := "byteAt", desc := "(I)I" } : MethodName)) ∈ bc_wd := bc_mem 1512 (by rfl) (by decide +kernel)
theorem mw_52 : (Cond.selects "BroadcastCarouselModel" ({ cls := "BroadcastCarouselModel", name := "byteAt", desc := "(I)I" } : MethodName) ({ cls := "BroadcastCarouselModel", name := "byteAt", desc := "(I)I" } : MethodName)) ∈ bc_wd := bc_mem 52 (by rfl) (by decide +kernel)
set_option maxRecDepth 100000 in
theorem mw_1513 : (Cond.code ({ cls := "BroadcastCarouselModel", name := "byteAt", desc := "(I)I" } : MethodName) prog_11_method_13_code (2 : Nat) (Option.some ClassFile.FieldType.int)) ∈ bc_wd := bc_mem 1513 (by rfl) (by decide +kernel)
set_option maxRecDepth 100000 in
theorem mw_1514 : (Cond.methodLink "BroadcastCarouselModel" (123 : Nat) ({ cls := "BroadcastCarouselModel", name := "isLetterAt", desc := "(I)Z" } : MethodName)) ∈ bc_wd := bc_mem 1514 (by rfl) (by decide +kernel)
set_option maxRecDepth 100000 in
theorem mw_1516 : (Cond.instanceMethod ({ cls := "BroadcastCarouselModel", name := "isLetterAt", desc := "(I)Z" } : MethodName)) ∈ bc_wd := bc_mem 1516 (by rfl) (by decide +kernel)
theorem mw_53 : (Cond.selects "BroadcastCarouselModel" ({ cls := "BroadcastCarouselModel", name := "isLetterAt", desc := "(I)Z" } : MethodName) ({ cls := "BroadcastCarouselModel", name := "isLetterAt", desc := "(I)Z" } : MethodName)) ∈ bc_wd := bc_mem 53 (by rfl) (by decide +kernel)
set_option maxRecDepth 100000 in
theorem mw_1517 : (Cond.code ({ cls := "BroadcastCarouselModel", name := "isLetterAt", desc := "(I)Z" } : MethodName) prog_11_method_14_code (2 : Nat) (Option.some ClassFile.FieldType.boolean)) ∈ bc_wd := bc_mem 1517 (by rfl) (by decide +kernel)
set_option maxRecDepth 100000 in
theorem mw_1520 : (Cond.methodLink "BroadcastCarouselModel" (127 : Nat) ({ cls := "BroadcastCarouselModel", name := "isDigitAt", desc := "(I)Z" } : MethodName)) ∈ bc_wd := bc_mem 1520 (by rfl) (by decide +kernel)
set_option maxRecDepth 100000 in
theorem mw_1522 : (Cond.instanceMethod ({ cls := "BroadcastCarouselModel", name := "isDigitAt", desc := "(I)Z" } : MethodName)) ∈ bc_wd := bc_mem 1522 (by rfl) (by decide +kernel)
theorem mw_54 : (Cond.selects "BroadcastCarouselModel" ({ cls := "BroadcastCarouselModel", name := "isDigitAt", desc := "(I)Z" } : MethodName) ({ cls := "BroadcastCarouselModel", name := "isDigitAt", desc := "(I)Z" } : MethodName)) ∈ bc_wd := bc_mem 54 (by rfl) (by decide +kernel)
set_option maxRecDepth 100000 in
theorem mw_1523 : (Cond.code ({ cls := "BroadcastCarouselModel", name := "isDigitAt", desc := "(I)Z" } : MethodName) prog_11_method_15_code (2 : Nat) (Option.some ClassFile.FieldType.boolean)) ∈ bc_wd := bc_mem 1523 (by rfl) (by decide +kernel)
set_option maxRecDepth 100000 in
theorem mw_1526 : (Cond.methodLink "BroadcastCarouselModel" (183 : Nat) ({ cls := "BroadcastCarouselModel", name := "readIndex", desc := "()V" } : MethodName)) ∈ bc_wd := bc_mem 1526 (by rfl) (by decide +kernel)
set_option maxRecDepth 100000 in
theorem mw_1528 : (Cond.instanceMethod ({ cls := "BroadcastCarouselModel", name := "readIndex", desc := "()V" } : MethodName)) ∈ bc_wd := bc_mem 1528 (by rfl) (by decide +kernel)
theorem mw_55 : (Cond.selects "BroadcastCarouselModel" ({ cls := "BroadcastCarouselModel", name := "readIndex", desc := "()V" } : MethodName) ({ cls := "BroadcastCarouselModel", name := "readIndex", desc := "()V" } : MethodName)) ∈ bc_wd := bc_mem 55 (by rfl) (by decide +kernel)
set_option maxRecDepth 100000 in
theorem mw_1529 : (Cond.code ({ cls := "BroadcastCarouselModel", name := "readIndex", desc := "()V" } : MethodName) prog_11_method_22_code (1 : Nat) (Option.none : Option ClassFile.FieldType)) ∈ bc_wd := bc_mem 1529 (by rfl) (by decide +kernel)
set_option maxRecDepth 100000 in
theorem mw_1531 : (Cond.methodLink "BroadcastCarouselModel" (151 : Nat) ({ cls := "BroadcastCarouselModel", name := "isWord", desc := "(Ljava/lang/String;)Z" } : MethodName)) ∈ bc_wd := bc_mem 1531 (by rfl) (by decide +kernel)
set_option maxRecDepth 100000 in
theorem mw_1533 : (Cond.instanceMethod ({ cls := "BroadcastCarouselModel", name := "isWord", desc := "(Ljava/lang/String;)Z" } : MethodName)) ∈ bc_wd := bc_mem 1533 (by rfl) (by decide +kernel)
theorem mw_56 : (Cond.selects "BroadcastCarouselModel" ({ cls := "BroadcastCarouselModel", name := "isWord", desc := "(Ljava/lang/String;)Z" } : MethodName) ({ cls := "BroadcastCarouselModel", name := "isWord", desc := "(Ljava/lang/String;)Z" } : MethodName)) ∈ bc_wd := bc_mem 56 (by rfl) (by decide +kernel)
set_option maxRecDepth 100000 in
theorem mw_1534 : (Cond.code ({ cls := "BroadcastCarouselModel", name := "isWord", desc := "(Ljava/lang/String;)Z" } : MethodName) prog_11_method_19_code (3 : Nat) (Option.some ClassFile.FieldType.boolean)) ∈ bc_wd := bc_mem 1534 (by rfl) (by decide +kernel)
set_option maxRecDepth 100000 in
theorem mw_1537 : (Cond.methodLink "BroadcastCarouselModel" (143 : Nat) ({ cls := "BroadcastCarouselModel", name := "fail", desc := "(I)V" } : MethodName)) ∈ bc_wd := bc_mem 1537 (by rfl) (by decide +kernel)
set_option maxRecDepth 100000 in
theorem mw_1539 : (Cond.instanceMethod ({ cls := "BroadcastCarouselModel", name := "fail", desc := "(I)V" } : MethodName)) ∈ bc_wd := bc_mem 1539 (by rfl) (by decide +kernel)
theorem mw_57 : (Cond.selects "BroadcastCarouselModel" ({ cls := "BroadcastCarouselModel", name := "fail", desc := "(I)V" } : MethodName) ({ cls := "BroadcastCarouselModel", name := "fail", desc := "(I)V" } : MethodName)) ∈ bc_wd := bc_mem 57 (by rfl) (by decide +kernel)
set_option maxRecDepth 100000 in
theorem mw_1540 : (Cond.code ({ cls := "BroadcastCarouselModel", name := "fail", desc := "(I)V" } : MethodName) prog_11_method_18_code (2 : Nat) (Option.none : Option ClassFile.FieldType)) ∈ bc_wd := bc_mem 1540 (by rfl) (by decide +kernel)
set_option maxRecDepth 100000 in
theorem mw_1541 : (Cond.methodLink "BroadcastCarouselModel" (155 : Nat) ({ cls := "BroadcastCarouselModel", name := "read", desc := "(II)I" } : MethodName)) ∈ bc_wd := bc_mem 1541 (by rfl) (by decide +kernel)
set_option maxRecDepth 100000 in
theorem mw_1543 : (Cond.instanceMethod ({ cls := "BroadcastCarouselModel", name := "read", desc := "(II)I" } : MethodName)) ∈ bc_wd := bc_mem 1543 (by rfl) (by decide +kernel)
theorem mw_58 : (Cond.selects "BroadcastCarouselModel" ({ cls := "BroadcastCarouselModel", name := "read", desc := "(II)I" } : MethodName) ({ cls := "BroadcastCarouselModel", name := "read", desc := "(II)I" } : MethodName)) ∈ bc_wd := bc_mem 58 (by rfl) (by decide +kernel)
set_option maxRecDepth 100000 in
theorem mw_1544 : (Cond.code ({ cls := "BroadcastCarouselModel", name := "read", desc := "(II)I" } : MethodName) prog_11_method_20_code (4 : Nat) (Option.some ClassFile.FieldType.int)) ∈ bc_wd := bc_mem 1544 (by rfl) (by decide +kernel)
set_option maxRecDepth 100000 in
theorem mw_1545 : (Cond.methodLink "BroadcastCarouselModel" (159 : Nat) ({ cls := "BroadcastCarouselModel", name := "expectSemicolon", desc := "()V" } : MethodName)) ∈ bc_wd := bc_mem 1545 (by rfl) (by decide +kernel)
set_option maxRecDepth 100000 in
theorem mw_1547 : (Cond.instanceMethod ({ cls := "BroadcastCarouselModel", name := "expectSemicolon", desc := "()V" } : MethodName)) ∈ bc_wd := bc_mem 1547 (by rfl) (by decide +kernel)
theorem mw_59 : (Cond.selects "BroadcastCarouselModel" ({ cls := "BroadcastCarouselModel", name := "expectSemicolon", desc := "()V" } : MethodName) ({ cls := "BroadcastCarouselModel", name := "expectSemicolon", desc := "()V" } : MethodName)) ∈ bc_wd := bc_mem 59 (by rfl) (by decide +kernel)
set_option maxRecDepth 100000 in
theorem mw_1548 : (Cond.code ({ cls := "BroadcastCarouselModel", name := "expectSemicolon", desc := "()V" } : MethodName) prog_11_method_21_code (1 : Nat) (Option.none : Option ClassFile.FieldType)) ∈ bc_wd := bc_mem 1548 (by rfl) (by decide +kernel)
set_option maxRecDepth 100000 in
theorem mw_1549 : (Cond.methodLink "BroadcastCarouselModel" (186 : Nat) ({ cls := "BroadcastCarouselModel", name := "readDisks", desc := "()V" } : MethodName)) ∈ bc_wd := bc_mem 1549 (by rfl) (by decide +kernel)
set_option maxRecDepth 100000 in
theorem mw_1551 : (Cond.instanceMethod ({ cls := "BroadcastCarouselModel", name := "readDisks", desc := "()V" } : MethodName)) ∈ bc_wd := bc_mem 1551 (by rfl) (by decide +kernel)
theorem mw_60 : (Cond.selects "BroadcastCarouselModel" ({ cls := "BroadcastCarouselModel", name := "readDisks", desc := "()V" } : MethodName) ({ cls := "BroadcastCarouselModel", name := "readDisks", desc := "()V" } : MethodName)) ∈ bc_wd := bc_mem 60 (by rfl) (by decide +kernel)
set_option maxRecDepth 100000 in
theorem mw_1552 : (Cond.code ({ cls := "BroadcastCarouselModel", name := "readDisks", desc := "()V" } : MethodName) prog_11_method_23_code (1 : Nat) (Option.none : Option ClassFile.FieldType)) ∈ bc_wd := bc_mem 1552 (by rfl) (by decide +kernel)
set_option maxRecDepth 100000 in
theorem mw_1554 : (Cond.methodLink "BroadcastCarouselModel" (189 : Nat) ({ cls := "BroadcastCarouselModel", name := "readItems", desc := "()V" } : MethodName)) ∈ bc_wd := bc_mem 1554 (by rfl) (by decide +kernel)
set_option maxRecDepth 100000 in
theorem mw_1556 : (Cond.instanceMethod ({ cls := "BroadcastCarouselModel", name := "readItems", desc := "()V" } : MethodName)) ∈ bc_wd := bc_mem 1556 (by rfl) (by decide +kernel)
theorem mw_61 : (Cond.selects "BroadcastCarouselModel" ({ cls := "BroadcastCarouselModel", name := "readItems", desc := "()V" } : MethodName) ({ cls := "BroadcastCarouselModel", name := "readItems", desc := "()V" } : MethodName)) ∈ bc_wd := bc_mem 61 (by rfl) (by decide +kernel)
set_option maxRecDepth 100000 in
theorem mw_1557 : (Cond.code ({ cls := "BroadcastCarouselModel", name := "readItems", desc := "()V" } : MethodName) prog_11_method_24_code (2 : Nat) (Option.none : Option ClassFile.FieldType)) ∈ bc_wd := bc_mem 1557 (by rfl) (by decide +kernel)
set_option maxRecDepth 100000 in
theorem mw_1559 : (Cond.methodLink "BroadcastCarouselModel" (192 : Nat) ({ cls := "BroadcastCarouselModel", name := "readClients", desc := "()V" } : MethodName)) ∈ bc_wd := bc_mem 1559 (by rfl) (by decide +kernel)
set_option maxRecDepth 100000 in
theorem mw_1561 : (Cond.instanceMethod ({ cls := "BroadcastCarouselModel", name := "readClients", desc := "()V" } : MethodName)) ∈ bc_wd := bc_mem 1561 (by rfl) (by decide +kernel)
theorem mw_62 : (Cond.selects "BroadcastCarouselModel" ({ cls := "BroadcastCarouselModel", name := "readClients", desc := "()V" } : MethodName) ({ cls := "BroadcastCarouselModel", name := "readClients", desc := "()V" } : MethodName)) ∈ bc_wd := bc_mem 62 (by rfl) (by decide +kernel)
set_option maxRecDepth 100000 in
theorem mw_1562 : (Cond.code ({ cls := "BroadcastCarouselModel", name := "readClients", desc := "()V" } : MethodName) prog_11_method_25_code (2 : Nat) (Option.none : Option ClassFile.FieldType)) ∈ bc_wd := bc_mem 1562 (by rfl) (by decide +kernel)
set_option maxRecDepth 100000 in
theorem mw_1567 : (Cond.methodLink "BroadcastCarouselModel" (195 : Nat) ({ cls := "BroadcastCarouselModel", name := "takeOver", desc := "()V" } : MethodName)) ∈ bc_wd := bc_mem 1567 (by rfl) (by decide +kernel)
set_option maxRecDepth 100000 in
theorem mw_1569 : (Cond.instanceMethod ({ cls := "BroadcastCarouselModel", name := "takeOver", desc := "()V" } : MethodName)) ∈ bc_wd := bc_mem 1569 (by rfl) (by decide +kernel)
theorem mw_63 : (Cond.selects "BroadcastCarouselModel" ({ cls := "BroadcastCarouselModel", name := "takeOver", desc := "()V" } : MethodName) ({ cls := "BroadcastCarouselModel", name := "takeOver", desc := "()V" } : MethodName)) ∈ bc_wd := bc_mem 63 (by rfl) (by decide +kernel)
set_option maxRecDepth 100000 in
theorem mw_1570 : (Cond.code ({ cls := "BroadcastCarouselModel", name := "takeOver", desc := "()V" } : MethodName) prog_11_method_27_code (2 : Nat) (Option.none : Option ClassFile.FieldType)) ∈ bc_wd := bc_mem 1570 (by rfl) (by decide +kernel)
set_option maxRecDepth 100000 in
theorem mw_1579 : (Cond.methodLink "BroadcastCarouselModel" (201 : Nat) ({ cls := "BroadcastCarouselModel", name := "isWrong", desc := "(Z)Z" } : MethodName)) ∈ bc_wd := bc_mem 1579 (by rfl) (by decide +kernel)
set_option maxRecDepth 100000 in
theorem mw_1581 : (Cond.instanceMethod ({ cls := "BroadcastCarouselModel", name := "isWrong", desc := "(Z)Z" } : MethodName)) ∈ bc_wd := bc_mem 1581 (by rfl) (by decide +kernel)
theorem mw_64 : (Cond.selects "BroadcastCarouselModel" ({ cls := "BroadcastCarouselModel", name := "isWrong", desc := "(Z)Z" } : MethodName) ({ cls := "BroadcastCarouselModel", name := "isWrong", desc := "(Z)Z" } : MethodName)) ∈ bc_wd := bc_mem 64 (by rfl) (by decide +kernel)
set_option maxRecDepth 100000 in
theorem mw_1582 : (Cond.code ({ cls := "BroadcastCarouselModel", name := "isWrong", desc := "(Z)Z" } : MethodName) prog_11_method_6_code (2 : Nat) (Option.some ClassFile.FieldType.boolean)) ∈ bc_wd := bc_mem 1582 (by rfl) (by decide +kernel)
set_option maxRecDepth 100000 in
theorem mw_1587 : (Cond.methodLink "BroadcastCarouselModel" (270 : Nat) ({ cls := "BroadcastCarouselModel", name := "isClient", desc := "(I)Z" } : MethodName)) ∈ bc_wd := bc_mem 1587 (by rfl) (by decide +kernel)
set_option maxRecDepth 100000 in
theorem mw_1589 : (Cond.instanceMethod ({ cls := "BroadcastCarouselModel", name := "isClient", desc := "(I)Z" } : MethodName)) ∈ bc_wd := bc_mem 1589 (by rfl) (by decide +kernel)
theorem mw_65 : (Cond.selects "BroadcastCarouselModel" ({ cls := "BroadcastCarouselModel", name := "isClient", desc := "(I)Z" } : MethodName) ({ cls := "BroadcastCarouselModel", name := "isClient", desc := "(I)Z" } : MethodName)) ∈ bc_wd := bc_mem 65 (by rfl) (by decide +kernel)
set_option maxRecDepth 100000 in
theorem mw_1590 : (Cond.code ({ cls := "BroadcastCarouselModel", name := "isClient", desc := "(I)Z" } : MethodName) prog_11_method_9_code (2 : Nat) (Option.some ClassFile.FieldType.boolean)) ∈ bc_wd := bc_mem 1590 (by rfl) (by decide +kernel)
set_option maxRecDepth 100000 in
theorem mw_1591 : (Cond.methodLink "BroadcastCarouselModel" (273 : Nat) ({ cls := "BroadcastCarouselModel", name := "isItem", desc := "(I)Z" } : MethodName)) ∈ bc_wd := bc_mem 1591 (by rfl) (by decide +kernel)
set_option maxRecDepth 100000 in
theorem mw_1593 : (Cond.instanceMethod ({ cls := "BroadcastCarouselModel", name := "isItem", desc := "(I)Z" } : MethodName)) ∈ bc_wd := bc_mem 1593 (by rfl) (by decide +kernel)
theorem mw_66 : (Cond.selects "BroadcastCarouselModel" ({ cls := "BroadcastCarouselModel", name := "isItem", desc := "(I)Z" } : MethodName) ({ cls := "BroadcastCarouselModel", name := "isItem", desc := "(I)Z" } : MethodName)) ∈ bc_wd := bc_mem 66 (by rfl) (by decide +kernel)
set_option maxRecDepth 100000 in
theorem mw_1594 : (Cond.code ({ cls := "BroadcastCarouselModel", name := "isItem", desc := "(I)Z" } : MethodName) prog_11_method_8_code (2 : Nat) (Option.some ClassFile.FieldType.boolean)) ∈ bc_wd := bc_mem 1594 (by rfl) (by decide +kernel)
set_option maxRecDepth 100000 in
theorem mw_1595 : (Cond.methodLink "BroadcastCarouselModel" (276 : Nat) ({ cls := "BroadcastCarouselModel", name := "remember", desc := "()V" } : MethodName)) ∈ bc_wd := bc_mem 1595 (by rfl) (by decide +kernel)
set_option maxRecDepth 100000 in
theorem mw_1597 : (Cond.instanceMethod ({ cls := "BroadcastCarouselModel", name := "remember", desc := "()V" } : MethodName)) ∈ bc_wd := bc_mem 1597 (by rfl) (by decide +kernel)
theorem mw_67 : (Cond.selects "BroadcastCarouselModel" ({ cls := "BroadcastCarouselModel", name := "remember", desc := "()V" } : MethodName) ({ cls := "BroadcastCarouselModel", name := "remember", desc := "()V" } : MethodName)) ∈ bc_wd := bc_mem 67 (by rfl) (by decide +kernel)
set_option maxRecDepth 100000 in
theorem mw_1598 : (Cond.code ({ cls := "BroadcastCarouselModel", name := "remember", desc := "()V" } : MethodName) prog_11_method_29_code (2 : Nat) (Option.none : Option ClassFile.FieldType)) ∈ bc_wd := bc_mem 1598 (by rfl) (by decide +kernel)
set_option maxRecDepth 100000 in
theorem mw_1599 : (Cond.methodLink "BroadcastCarouselModel" (242 : Nat) ({ cls := "BroadcastCarouselModel", name := "layProgram", desc := "()V" } : MethodName)) ∈ bc_wd := bc_mem 1599 (by rfl) (by decide +kernel)
set_option maxRecDepth 100000 in
theorem mw_1601 : (Cond.instanceMethod ({ cls := "BroadcastCarouselModel", name := "layProgram", desc := "()V" } : MethodName)) ∈ bc_wd := bc_mem 1601 (by rfl) (by decide +kernel)
theorem mw_68 : (Cond.selects "BroadcastCarouselModel" ({ cls := "BroadcastCarouselModel", name := "layProgram", desc := "()V" } : MethodName) ({ cls := "BroadcastCarouselModel", name := "layProgram", desc := "()V" } : MethodName)) ∈ bc_wd := bc_mem 68 (by rfl) (by decide +kernel)
set_option maxRecDepth 100000 in
theorem mw_1602 : (Cond.code ({ cls := "BroadcastCarouselModel", name := "layProgram", desc := "()V" } : MethodName) prog_11_method_38_code (5 : Nat) (Option.none : Option ClassFile.FieldType)) ∈ bc_wd := bc_mem 1602 (by rfl) (by decide +kernel)
set_option maxRecDepth 100000 in
theorem mw_1603 : (Cond.methodLink "BroadcastCarouselModel" (224 : Nat) ({ cls := "BroadcastCarouselModel", name := "rounds", desc := "()I" } : MethodName)) ∈ bc_wd := bc_mem 1603 (by rfl) (by decide +kernel)
set_option maxRecDepth 100000 in
theorem mw_1605 : (Cond.instanceMethod ({ cls := "BroadcastCarouselModel", name := "rounds", desc := "()I" } : MethodName)) ∈ bc_wd := bc_mem 1605 (by rfl) (by decide +kernel)
theorem mw_69 : (Cond.selects "BroadcastCarouselModel" ({ cls := "BroadcastCarouselModel", name := "rounds", desc := "()I" } : MethodName) ({ cls := "BroadcastCarouselModel", name := "rounds", desc := "()I" } : MethodName)) ∈ bc_wd := bc_mem 69 (by rfl) (by decide +kernel)
set_option maxRecDepth 100000 in
theorem mw_1606 : (Cond.code ({ cls := "BroadcastCarouselModel", name := "rounds", desc := "()I" } : MethodName) prog_11_method_35_code (4 : Nat) (Option.some ClassFile.FieldType.int)) ∈ bc_wd := bc_mem 1606 (by rfl) (by decide +kernel)
set_option maxRecDepth 100000 in
theorem mw_1607 : (Cond.methodLink "BroadcastCarouselModel" (208 : Nat) ({ cls := "BroadcastCarouselModel", name := "itemsOn", desc := "(I)I" } : MethodName)) ∈ bc_wd := bc_mem 1607 (by rfl) (by decide +kernel)
set_option maxRecDepth 100000 in
theorem mw_1609 : (Cond.instanceMethod ({ cls := "BroadcastCarouselModel", name := "itemsOn", desc := "(I)I" } : MethodName)) ∈ bc_wd := bc_mem 1609 (by rfl) (by decide +kernel)
theorem mw_70 : (Cond.selects "BroadcastCarouselModel" ({ cls := "BroadcastCarouselModel", name := "itemsOn", desc := "(I)I" } : MethodName) ({ cls := "BroadcastCarouselModel", name := "itemsOn", desc := "(I)I" } : MethodName)) ∈ bc_wd := bc_mem 70 (by rfl) (by decide +kernel)
set_option maxRecDepth 100000 in
theorem mw_1610 : (Cond.code ({ cls := "BroadcastCarouselModel", name := "itemsOn", desc := "(I)I" } : MethodName) prog_11_method_34_code (4 : Nat) (Option.some ClassFile.FieldType.int)) ∈ bc_wd := bc_mem 1610 (by rfl) (by decide +kernel)
set_option maxRecDepth 100000 in
theorem mw_1612 : (Cond.static ({ cls := "BroadcastCarouselModel", name := "common", desc := "(II)I" } : MethodName)) ∈ bc_wd := bc_mem 1612 (by rfl) (by decide +kernel)
set_option maxRecDepth 100000 in
theorem mw_1613 : (Cond.code ({ cls := "BroadcastCarouselModel", name := "common", desc := "(II)I" } : MethodName) prog_11_method_33_code (2 : Nat) (Option.some ClassFile.FieldType.int)) ∈ bc_wd := bc_mem 1613 (by rfl) (by decide +kernel)
set_option maxRecDepth 100000 in
theorem mw_1611 : (Cond.methodLink "BroadcastCarouselModel" (205 : Nat) ({ cls := "BroadcastCarouselModel", name := "common", desc := "(II)I" } : MethodName)) ∈ bc_wd := bc_mem 1611 (by rfl) (by decide +kernel)
set_option maxRecDepth 100000 in
theorem mw_1614 : (Cond.methodLink "BroadcastCarouselModel" (227 : Nat) ({ cls := "BroadcastCarouselModel", name := "sendChunk", desc := "(III)V" } : MethodName)) ∈ bc_wd := bc_mem 1614 (by rfl) (by decide +kernel)
set_option maxRecDepth 100000 in
theorem mw_1616 : (Cond.instanceMethod ({ cls := "BroadcastCarouselModel", name := "sendChunk", desc := "(III)V" } : MethodName)) ∈ bc_wd := bc_mem 1616 (by rfl) (by decide +kernel)
theorem mw_71 : (Cond.selects "BroadcastCarouselModel" ({ cls := "BroadcastCarouselModel", name := "sendChunk", desc := "(III)V" } : MethodName) ({ cls := "BroadcastCarouselModel", name := "sendChunk", desc := "(III)V" } : MethodName)) ∈ bc_wd := bc_mem 71 (by rfl) (by decide +kernel)
set_option maxRecDepth 100000 in
theorem mw_1617 : (Cond.code ({ cls := "BroadcastCarouselModel", name := "sendChunk", desc := "(III)V" } : MethodName) prog_11_method_37_code (8 : Nat) (Option.none : Option ClassFile.FieldType)) ∈ bc_wd := bc_mem 1617 (by rfl) (by decide +kernel)
set_option maxRecDepth 100000 in
theorem mw_1619 : (Cond.static ({ cls := "BroadcastCarouselModel", name := "many", desc := "(I)I" } : MethodName)) ∈ bc_wd := bc_mem 1619 (by rfl) (by decide +kernel)
set_option maxRecDepth 100000 in
theorem mw_1620 : (Cond.code ({ cls := "BroadcastCarouselModel", name := "many", desc := "(I)I" } : MethodName) prog_11_method_5_code (3 : Nat) (Option.some ClassFile.FieldType.int)) ∈ bc_wd := bc_mem 1620 (by rfl) (by decide +kernel)
set_option maxRecDepth 100000 in
theorem mw_1618 : (Cond.methodLink "BroadcastCarouselModel" (215 : Nat) ({ cls := "BroadcastCarouselModel", name := "many", desc := "(I)I" } : MethodName)) ∈ bc_wd := bc_mem 1618 (by rfl) (by decide +kernel)
set_option maxRecDepth 100000 in
theorem mw_1621 : (Cond.methodLink "BroadcastCarouselModel" (221 : Nat) ({ cls := "BroadcastCarouselModel", name := "itemAt", desc := "(II)I" } : MethodName)) ∈ bc_wd := bc_mem 1621 (by rfl) (by decide +kernel)
set_option maxRecDepth 100000 in
theorem mw_1623 : (Cond.instanceMethod ({ cls := "BroadcastCarouselModel", name := "itemAt", desc := "(II)I" } : MethodName)) ∈ bc_wd := bc_mem 1623 (by rfl) (by decide +kernel)
theorem mw_72 : (Cond.selects "BroadcastCarouselModel" ({ cls := "BroadcastCarouselModel", name := "itemAt", desc := "(II)I" } : MethodName) ({ cls := "BroadcastCarouselModel", name := "itemAt", desc := "(II)I" } : MethodName)) ∈ bc_wd := bc_mem 72 (by rfl) (by decide +kernel)
set_option maxRecDepth 100000 in
theorem mw_1624 : (Cond.code ({ cls := "BroadcastCarouselModel", name := "itemAt", desc := "(II)I" } : MethodName) prog_11_method_36_code (5 : Nat) (Option.some ClassFile.FieldType.int)) ∈ bc_wd := bc_mem 1624 (by rfl) (by decide +kernel)
set_option maxRecDepth 100000 in
theorem mw_1626 : (Cond.static ({ cls := "BroadcastCarouselModel", name := "has", desc := "(II)Z" } : MethodName)) ∈ bc_wd := bc_mem 1626 (by rfl) (by decide +kernel)
set_option maxRecDepth 100000 in
theorem mw_1627 : (Cond.code ({ cls := "BroadcastCarouselModel", name := "has", desc := "(II)Z" } : MethodName) prog_11_method_4_code (2 : Nat) (Option.some ClassFile.FieldType.boolean)) ∈ bc_wd := bc_mem 1627 (by rfl) (by decide +kernel)
set_option maxRecDepth 100000 in
theorem mw_1625 : (Cond.methodLink "BroadcastCarouselModel" (211 : Nat) ({ cls := "BroadcastCarouselModel", name := "has", desc := "(II)Z" } : MethodName)) ∈ bc_wd := bc_mem 1625 (by rfl) (by decide +kernel)
set_option maxRecDepth 100000 in
theorem mw_1628 : (Cond.methodLink "BroadcastCarouselModel" (279 : Nat) ({ cls := "BroadcastCarouselModel", name := "requests1", desc := "(II)I" } : MethodName)) ∈ bc_wd := bc_mem 1628 (by rfl) (by decide +kernel)
set_option maxRecDepth 100000 in
theorem mw_1630 : (Cond.instanceMethod ({ cls := "BroadcastCarouselModel", name := "requests1", desc := "(II)I" } : MethodName)) ∈ bc_wd := bc_mem 1630 (by rfl) (by decide +kernel)
theorem mw_73 : (Cond.selects "BroadcastCarouselModel" ({ cls := "BroadcastCarouselModel", name := "requests1", desc := "(II)I" } : MethodName) ({ cls := "BroadcastCarouselModel", name := "requests1", desc := "(II)I" } : MethodName)) ∈ bc_wd := bc_mem 73 (by rfl) (by decide +kernel)
set_option maxRecDepth 100000 in
theorem mw_1631 : (Cond.code ({ cls := "BroadcastCarouselModel", name := "requests1", desc := "(II)I" } : MethodName) prog_11_method_51_code (6 : Nat) (Option.some ClassFile.FieldType.int)) ∈ bc_wd := bc_mem 1631 (by rfl) (by decide +kernel)
set_option maxRecDepth 100000 in
theorem mw_1632 : (Cond.methodLink "BroadcastCarouselModel" (248 : Nat) ({ cls := "BroadcastCarouselModel", name := "lay", desc := "(I)V" } : MethodName)) ∈ bc_wd := bc_mem 1632 (by rfl) (by decide +kernel)
set_option maxRecDepth 100000 in
theorem mw_1634 : (Cond.instanceMethod ({ cls := "BroadcastCarouselModel", name := "lay", desc := "(I)V" } : MethodName)) ∈ bc_wd := bc_mem 1634 (by rfl) (by decide +kernel)
theorem mw_74 : (Cond.selects "BroadcastCarouselModel" ({ cls := "BroadcastCarouselModel", name := "lay", desc := "(I)V" } : MethodName) ({ cls := "BroadcastCarouselModel", name := "lay", desc := "(I)V" } : MethodName)) ∈ bc_wd := bc_mem 74 (by rfl) (by decide +kernel)
set_option maxRecDepth 100000 in
theorem mw_1635 : (Cond.code ({ cls := "BroadcastCarouselModel", name := "lay", desc := "(I)V" } : MethodName) prog_11_method_40_code (2 : Nat) (Option.none : Option ClassFile.FieldType)) ∈ bc_wd := bc_mem 1635 (by rfl) (by decide +kernel)
set_option maxRecDepth 100000 in
theorem mw_1636 : (Cond.methodLink "BroadcastCarouselModel" (233 : Nat) ({ cls := "BroadcastCarouselModel", name := "layFar", desc := "([II)V" } : MethodName)) ∈ bc_wd := bc_mem 1636 (by rfl) (by decide +kernel)
set_option maxRecDepth 100000 in
theorem mw_1638 : (Cond.instanceMethod ({ cls := "BroadcastCarouselModel", name := "layFar", desc := "([II)V" } : MethodName)) ∈ bc_wd := bc_mem 1638 (by rfl) (by decide +kernel)
theorem mw_75 : (Cond.selects "BroadcastCarouselModel" ({ cls := "BroadcastCarouselModel", name := "layFar", desc := "([II)V" } : MethodName) ({ cls := "BroadcastCarouselModel", name := "layFar", desc := "([II)V" } : MethodName)) ∈ bc_wd := bc_mem 75 (by rfl) (by decide +kernel)
set_option maxRecDepth 100000 in
theorem mw_1639 : (Cond.code ({ cls := "BroadcastCarouselModel", name := "layFar", desc := "([II)V" } : MethodName) prog_11_method_39_code (5 : Nat) (Option.none : Option ClassFile.FieldType)) ∈ bc_wd := bc_mem 1639 (by rfl) (by decide +kernel)
set_option maxRecDepth 100000 in
theorem mw_1640 : (Cond.methodLink "BroadcastCarouselModel" (251 : Nat) ({ cls := "BroadcastCarouselModel", name := "accessAt", desc := "(I)I" } : MethodName)) ∈ bc_wd := bc_mem 1640 (by rfl) (by decide +kernel)
set_option maxRecDepth 100000 in
theorem mw_1642 : (Cond.instanceMethod ({ cls := "BroadcastCarouselModel", name := "accessAt", desc := "(I)I" } : MethodName)) ∈ bc_wd := bc_mem 1642 (by rfl) (by decide +kernel)
theorem mw_76 : (Cond.selects "BroadcastCarouselModel" ({ cls := "BroadcastCarouselModel", name := "accessAt", desc := "(I)I" } : MethodName) ({ cls := "BroadcastCarouselModel", name := "accessAt", desc := "(I)I" } : MethodName)) ∈ bc_wd := bc_mem 76 (by rfl) (by decide +kernel)
set_option maxRecDepth 100000 in
theorem mw_1643 : (Cond.code ({ cls := "BroadcastCarouselModel", name := "accessAt", desc := "(I)I" } : MethodName) prog_11_method_41_code (3 : Nat) (Option.some ClassFile.FieldType.int)) ∈ bc_wd := bc_mem 1643 (by rfl) (by decide +kernel)
set_option maxRecDepth 100000 in
theorem mw_1644 : (Cond.methodLink "BroadcastCarouselModel" (254 : Nat) ({ cls := "BroadcastCarouselModel", name := "tuningAt", desc := "(I)I" } : MethodName)) ∈ bc_wd := bc_mem 1644 (by rfl) (by decide +kernel)
set_option maxRecDepth 100000 in
theorem mw_1646 : (Cond.instanceMethod ({ cls := "BroadcastCarouselModel", name := "tuningAt", desc := "(I)I" } : MethodName)) ∈ bc_wd := bc_mem 1646 (by rfl) (by decide +kernel)
theorem mw_77 : (Cond.selects "BroadcastCarouselModel" ({ cls := "BroadcastCarouselModel", name := "tuningAt", desc := "(I)I" } : MethodName) ({ cls := "BroadcastCarouselModel", name := "tuningAt", desc := "(I)I" } : MethodName)) ∈ bc_wd := bc_mem 77 (by rfl) (by decide +kernel)
set_option maxRecDepth 100000 in
theorem mw_1647 : (Cond.code ({ cls := "BroadcastCarouselModel", name := "tuningAt", desc := "(I)I" } : MethodName) prog_11_method_42_code (2 : Nat) (Option.some ClassFile.FieldType.int)) ∈ bc_wd := bc_mem 1647 (by rfl) (by decide +kernel)
set_option maxRecDepth 100000 in
theorem mw_1648 : (Cond.methodLink "BroadcastCarouselModel" (267 : Nat) ({ cls := "BroadcastCarouselModel", name := "chosen", desc := "(I)I" } : MethodName)) ∈ bc_wd := bc_mem 1648 (by rfl) (by decide +kernel)
set_option maxRecDepth 100000 in
theorem mw_1650 : (Cond.instanceMethod ({ cls := "BroadcastCarouselModel", name := "chosen", desc := "(I)I" } : MethodName)) ∈ bc_wd := bc_mem 1650 (by rfl) (by decide +kernel)
theorem mw_78 : (Cond.selects "BroadcastCarouselModel" ({ cls := "BroadcastCarouselModel", name := "chosen", desc := "(I)I" } : MethodName) ({ cls := "BroadcastCarouselModel", name := "chosen", desc := "(I)I" } : MethodName)) ∈ bc_wd := bc_mem 78 (by rfl) (by decide +kernel)
set_option maxRecDepth 100000 in
theorem mw_1651 : (Cond.code ({ cls := "BroadcastCarouselModel", name := "chosen", desc := "(I)I" } : MethodName) prog_11_method_50_code (4 : Nat) (Option.some ClassFile.FieldType.int)) ∈ bc_wd := bc_mem 1651 (by rfl) (by decide +kernel)
set_option maxRecDepth 100000 in
theorem mw_1652 : (Cond.methodLink "BroadcastCarouselModel" (257 : Nat) ({ cls := "BroadcastCarouselModel", name := "ofClient", desc := "(II)I" } : MethodName)) ∈ bc_wd := bc_mem 1652 (by rfl) (by decide +kernel)
set_option maxRecDepth 100000 in
theorem mw_1654 : (Cond.instanceMethod ({ cls := "BroadcastCarouselModel", name := "ofClient", desc := "(II)I" } : MethodName)) ∈ bc_wd := bc_mem 1654 (by rfl) (by decide +kernel)
theorem mw_79 : (Cond.selects "BroadcastCarouselModel" ({ cls := "BroadcastCarouselModel", name := "ofClient", desc := "(II)I" } : MethodName) ({ cls := "BroadcastCarouselModel", name := "ofClient", desc := "(II)I" } : MethodName)) ∈ bc_wd := bc_mem 79 (by rfl) (by decide +kernel)
set_option maxRecDepth 100000 in
theorem mw_1655 : (Cond.code ({ cls := "BroadcastCarouselModel", name := "ofClient", desc := "(II)I" } : MethodName) prog_11_method_47_code (3 : Nat) (Option.some ClassFile.FieldType.int)) ∈ bc_wd := bc_mem 1655 (by rfl) (by decide +kernel)
set_option maxRecDepth 100000 in
theorem mw_1656 : (Cond.methodLink "BroadcastCarouselModel" (260 : Nat) ({ cls := "BroadcastCarouselModel", name := "goesRather", desc := "(III)Z" } : MethodName)) ∈ bc_wd := bc_mem 1656 (by rfl) (by decide +kernel)
set_option maxRecDepth 100000 in
theorem mw_1658 : (Cond.instanceMethod ({ cls := "BroadcastCarouselModel", name := "goesRather", desc := "(III)Z" } : MethodName)) ∈ bc_wd := bc_mem 1658 (by rfl) (by decide +kernel)
theorem mw_80 : (Cond.selects "BroadcastCarouselModel" ({ cls := "BroadcastCarouselModel", name := "goesRather", desc := "(III)Z" } : MethodName) ({ cls := "BroadcastCarouselModel", name := "goesRather", desc := "(III)Z" } : MethodName)) ∈ bc_wd := bc_mem 80 (by rfl) (by decide +kernel)
set_option maxRecDepth 100000 in
theorem mw_1659 : (Cond.code ({ cls := "BroadcastCarouselModel", name := "goesRather", desc := "(III)Z" } : MethodName) prog_11_method_49_code (8 : Nat) (Option.some ClassFile.FieldType.boolean)) ∈ bc_wd := bc_mem 1659 (by rfl) (by decide +kernel)
set_option maxRecDepth 100000 in
theorem mw_1665 : (Cond.methodLink "BroadcastCarouselModel" (284 : Nat) ({ cls := "BroadcastCarouselModel", name := "addTo", desc := "(III)V" } : MethodName)) ∈ bc_wd := bc_mem 1665 (by rfl) (by decide +kernel)
set_option maxRecDepth 100000 in
theorem mw_1667 : (Cond.instanceMethod ({ cls := "BroadcastCarouselModel", name := "addTo", desc := "(III)V" } : MethodName)) ∈ bc_wd := bc_mem 1667 (by rfl) (by decide +kernel)
theorem mw_81 : (Cond.selects "BroadcastCarouselModel" ({ cls := "BroadcastCarouselModel", name := "addTo", desc := "(III)V" } : MethodName) ({ cls := "BroadcastCarouselModel", name := "addTo", desc := "(III)V" } : MethodName)) ∈ bc_wd := bc_mem 81 (by rfl) (by decide +kernel)
set_option maxRecDepth 100000 in
theorem mw_1668 : (Cond.code ({ cls := "BroadcastCarouselModel", name := "addTo", desc := "(III)V" } : MethodName) prog_11_method_48_code (4 : Nat) (Option.none : Option ClassFile.FieldType)) ∈ bc_wd := bc_mem 1668 (by rfl) (by decide +kernel)
set_option maxRecDepth 100000 in
theorem mw_1674 : (Cond.methodLink "BroadcastCarouselModel" (289 : Nat) ({ cls := "BroadcastCarouselModel", name := "sets", desc := "(II)I" } : MethodName)) ∈ bc_wd := bc_mem 1674 (by rfl) (by decide +kernel)
set_option maxRecDepth 100000 in
theorem mw_1676 : (Cond.instanceMethod ({ cls := "BroadcastCarouselModel", name := "sets", desc := "(II)I" } : MethodName)) ∈ bc_wd := bc_mem 1676 (by rfl) (by decide +kernel)
theorem mw_82 : (Cond.selects "BroadcastCarouselModel" ({ cls := "BroadcastCarouselModel", name := "sets", desc := "(II)I" } : MethodName) ({ cls := "BroadcastCarouselModel", name := "sets", desc := "(II)I" } : MethodName)) ∈ bc_wd := bc_mem 82 (by rfl) (by decide +kernel)
set_option maxRecDepth 100000 in
theorem mw_1677 : (Cond.code ({ cls := "BroadcastCarouselModel", name := "sets", desc := "(II)I" } : MethodName) prog_11_method_54_code (4 : Nat) (Option.some ClassFile.FieldType.int)) ∈ bc_wd := bc_mem 1677 (by rfl) (by decide +kernel)
set_option maxRecDepth 100000 in
theorem mw_1687 : (Cond.methodLink "BroadcastCarouselModel" (294 : Nat) ({ cls := "BroadcastCarouselModel", name := "isDisk", desc := "(I)Z" } : MethodName)) ∈ bc_wd := bc_mem 1687 (by rfl) (by decide +kernel)
set_option maxRecDepth 100000 in
theorem mw_1689 : (Cond.instanceMethod ({ cls := "BroadcastCarouselModel", name := "isDisk", desc := "(I)Z" } : MethodName)) ∈ bc_wd := bc_mem 1689 (by rfl) (by decide +kernel)
theorem mw_83 : (Cond.selects "BroadcastCarouselModel" ({ cls := "BroadcastCarouselModel", name := "isDisk", desc := "(I)Z" } : MethodName) ({ cls := "BroadcastCarouselModel", name := "isDisk", desc := "(I)Z" } : MethodName)) ∈ bc_wd := bc_mem 83 (by rfl) (by decide +kernel)
set_option maxRecDepth 100000 in
theorem mw_1690 : (Cond.code ({ cls := "BroadcastCarouselModel", name := "isDisk", desc := "(I)Z" } : MethodName) prog_11_method_7_code (2 : Nat) (Option.some ClassFile.FieldType.boolean)) ∈ bc_wd := bc_mem 1690 (by rfl) (by decide +kernel)
set_option maxRecDepth 100000 in
theorem mw_1706 : (Cond.methodLink "BroadcastCarouselModel" (312 : Nat) ({ cls := "BroadcastCarouselModel", name := "repairs", desc := "()I" } : MethodName)) ∈ bc_wd := bc_mem 1706 (by rfl) (by decide +kernel)
set_option maxRecDepth 100000 in
theorem mw_1708 : (Cond.instanceMethod ({ cls := "BroadcastCarouselModel", name := "repairs", desc := "()I" } : MethodName)) ∈ bc_wd := bc_mem 1708 (by rfl) (by decide +kernel)
theorem mw_84 : (Cond.selects "BroadcastCarouselModel" ({ cls := "BroadcastCarouselModel", name := "repairs", desc := "()I" } : MethodName) ({ cls := "BroadcastCarouselModel", name := "repairs", desc := "()I" } : MethodName)) ∈ bc_wd := bc_mem 84 (by rfl) (by decide +kernel)
set_option maxRecDepth 100000 in
theorem mw_1709 : (Cond.code ({ cls := "BroadcastCarouselModel", name := "repairs", desc := "()I" } : MethodName) prog_11_method_62_code (3 : Nat) (Option.some ClassFile.FieldType.int)) ∈ bc_wd := bc_mem 1709 (by rfl) (by decide +kernel)
set_option maxRecDepth 100000 in
theorem mw_1710 : (Cond.methodLink "BroadcastCarouselModel" (309 : Nat) ({ cls := "BroadcastCarouselModel", name := "firstToMove", desc := "()I" } : MethodName)) ∈ bc_wd := bc_mem 1710 (by rfl) (by decide +kernel)
set_option maxRecDepth 100000 in
theorem mw_1712 : (Cond.instanceMethod ({ cls := "BroadcastCarouselModel", name := "firstToMove", desc := "()I" } : MethodName)) ∈ bc_wd := bc_mem 1712 (by rfl) (by decide +kernel)
theorem mw_85 : (Cond.selects "BroadcastCarouselModel" ({ cls := "BroadcastCarouselModel", name := "firstToMove", desc := "()I" } : MethodName) ({ cls := "BroadcastCarouselModel", name := "firstToMove", desc := "()I" } : MethodName)) ∈ bc_wd := bc_mem 85 (by rfl) (by decide +kernel)
set_option maxRecDepth 100000 in
theorem mw_1713 : (Cond.code ({ cls := "BroadcastCarouselModel", name := "firstToMove", desc := "()I" } : MethodName) prog_11_method_61_code (3 : Nat) (Option.some ClassFile.FieldType.int)) ∈ bc_wd := bc_mem 1713 (by rfl) (by decide +kernel)
set_option maxRecDepth 100000 in
theorem mw_1714 : (Cond.methodLink "BroadcastCarouselModel" (303 : Nat) ({ cls := "BroadcastCarouselModel", name := "violating", desc := "()I" } : MethodName)) ∈ bc_wd := bc_mem 1714 (by rfl) (by decide +kernel)
set_option maxRecDepth 100000 in
theorem mw_1716 : (Cond.instanceMethod ({ cls := "BroadcastCarouselModel", name := "violating", desc := "()I" } : MethodName)) ∈ bc_wd := bc_mem 1716 (by rfl) (by decide +kernel)
theorem mw_86 : (Cond.selects "BroadcastCarouselModel" ({ cls := "BroadcastCarouselModel", name := "violating", desc := "()I" } : MethodName) ({ cls := "BroadcastCarouselModel", name := "violating", desc := "()I" } : MethodName)) ∈ bc_wd := bc_mem 86 (by rfl) (by decide +kernel)
set_option maxRecDepth 100000 in
theorem mw_1717 : (Cond.code ({ cls := "BroadcastCarouselModel", name := "violating", desc := "()I" } : MethodName) prog_11_method_45_code (3 : Nat) (Option.some ClassFile.FieldType.int)) ∈ bc_wd := bc_mem 1717 (by rfl) (by decide +kernel)
set_option maxRecDepth 100000 in
theorem mw_1718 : (Cond.methodLink "BroadcastCarouselModel" (245 : Nat) ({ cls := "BroadcastCarouselModel", name := "gapOf", desc := "(I)I" } : MethodName)) ∈ bc_wd := bc_mem 1718 (by rfl) (by decide +kernel)
set_option maxRecDepth 100000 in
theorem mw_1720 : (Cond.instanceMethod ({ cls := "BroadcastCarouselModel", name := "gapOf", desc := "(I)I" } : MethodName)) ∈ bc_wd := bc_mem 1720 (by rfl) (by decide +kernel)
theorem mw_87 : (Cond.selects "BroadcastCarouselModel" ({ cls := "BroadcastCarouselModel", name := "gapOf", desc := "(I)I" } : MethodName) ({ cls := "BroadcastCarouselModel", name := "gapOf", desc := "(I)I" } : MethodName)) ∈ bc_wd := bc_mem 87 (by rfl) (by decide +kernel)
set_option maxRecDepth 100000 in
theorem mw_1721 : (Cond.code ({ cls := "BroadcastCarouselModel", name := "gapOf", desc := "(I)I" } : MethodName) prog_11_method_43_code (4 : Nat) (Option.some ClassFile.FieldType.int)) ∈ bc_wd := bc_mem 1721 (by rfl) (by decide +kernel)
set_option maxRecDepth 100000 in
theorem mw_1722 : (Cond.methodLink "BroadcastCarouselModel" (237 : Nat) ({ cls := "java/lang/Math", name := "max", desc := "(II)I" } : MethodName)) ∈ bc_wd := bc_mem 1722 (by rfl) (by decide +kernel)
set_option maxRecDepth 100000 in
theorem mw_1723 : (Cond.methodLink "BroadcastCarouselModel" (306 : Nat) ({ cls := "BroadcastCarouselModel", name := "faster", desc := "(I)I" } : MethodName)) ∈ bc_wd := bc_mem 1723 (by rfl) (by decide +kernel)
set_option maxRecDepth 100000 in
theorem mw_1725 : (Cond.instanceMethod ({ cls := "BroadcastCarouselModel", name := "faster", desc := "(I)I" } : MethodName)) ∈ bc_wd := bc_mem 1725 (by rfl) (by decide +kernel)
theorem mw_88 : (Cond.selects "BroadcastCarouselModel" ({ cls := "BroadcastCarouselModel", name := "faster", desc := "(I)I" } : MethodName) ({ cls := "BroadcastCarouselModel", name := "faster", desc := "(I)I" } : MethodName)) ∈ bc_wd := bc_mem 88 (by rfl) (by decide +kernel)
set_option maxRecDepth 100000 in
theorem mw_1726 : (Cond.code ({ cls := "BroadcastCarouselModel", name := "faster", desc := "(I)I" } : MethodName) prog_11_method_60_code (5 : Nat) (Option.some ClassFile.FieldType.int)) ∈ bc_wd := bc_mem 1726 (by rfl) (by decide +kernel)
set_option maxRecDepth 100000 in
theorem mw_1731 : (Cond.methodLink "BroadcastCarouselModel" (347 : Nat) ({ cls := "BroadcastCarouselModel", name := "findDivision", desc := "(I)V" } : MethodName)) ∈ bc_wd := bc_mem 1731 (by rfl) (by decide +kernel)
set_option maxRecDepth 100000 in
theorem mw_1733 : (Cond.instanceMethod ({ cls := "BroadcastCarouselModel", name := "findDivision", desc := "(I)V" } : MethodName)) ∈ bc_wd := bc_mem 1733 (by rfl) (by decide +kernel)
theorem mw_89 : (Cond.selects "BroadcastCarouselModel" ({ cls := "BroadcastCarouselModel", name := "findDivision", desc := "(I)V" } : MethodName) ({ cls := "BroadcastCarouselModel", name := "findDivision", desc := "(I)V" } : MethodName)) ∈ bc_wd := bc_mem 89 (by rfl) (by decide +kernel)
set_option maxRecDepth 100000 in
theorem mw_1734 : (Cond.code ({ cls := "BroadcastCarouselModel", name := "findDivision", desc := "(I)V" } : MethodName) prog_11_method_68_code (3 : Nat) (Option.none : Option ClassFile.FieldType)) ∈ bc_wd := bc_mem 1734 (by rfl) (by decide +kernel)
set_option maxRecDepth 100000 in
theorem mw_1735 : (Cond.methodLink "BroadcastCarouselModel" (338 : Nat) ({ cls := "BroadcastCarouselModel", name := "rankedItem", desc := "(I)I" } : MethodName)) ∈ bc_wd := bc_mem 1735 (by rfl) (by decide +kernel)
set_option maxRecDepth 100000 in
theorem mw_1737 : (Cond.instanceMethod ({ cls := "BroadcastCarouselModel", name := "rankedItem", desc := "(I)I" } : MethodName)) ∈ bc_wd := bc_mem 1737 (by rfl) (by decide +kernel)
theorem mw_90 : (Cond.selects "BroadcastCarouselModel" ({ cls := "BroadcastCarouselModel", name := "rankedItem", desc := "(I)I" } : MethodName) ({ cls := "BroadcastCarouselModel", name := "rankedItem", desc := "(I)I" } : MethodName)) ∈ bc_wd := bc_mem 90 (by rfl) (by decide +kernel)
set_option maxRecDepth 100000 in
theorem mw_1738 : (Cond.code ({ cls := "BroadcastCarouselModel", name := "rankedItem", desc := "(I)I" } : MethodName) prog_11_method_64_code (6 : Nat) (Option.some ClassFile.FieldType.int)) ∈ bc_wd := bc_mem 1738 (by rfl) (by decide +kernel)
set_option maxRecDepth 100000 in
theorem mw_1739 : (Cond.methodLink "BroadcastCarouselModel" (341 : Nat) ({ cls := "BroadcastCarouselModel", name := "putAside", desc := "(I)V" } : MethodName)) ∈ bc_wd := bc_mem 1739 (by rfl) (by decide +kernel)
set_option maxRecDepth 100000 in
theorem mw_1741 : (Cond.instanceMethod ({ cls := "BroadcastCarouselModel", name := "putAside", desc := "(I)V" } : MethodName)) ∈ bc_wd := bc_mem 1741 (by rfl) (by decide +kernel)
set_option maxRecDepth 100000 in
theorem mw_91 : (Cond.selects "BroadcastCarouselModel" ({ cls := "BroadcastCarouselModel", name := "putAside", desc := "(I)V" } : MethodName) ({ cls := "BroadcastCarouselModel", name := "putAside", desc := "(I)V" } : MethodName)) ∈ bc_wd := bc_mem 91 (by rfl) (by decide +kernel)
set_option maxRecDepth 100000 in
theorem mw_1742 : (Cond.code ({ cls := "BroadcastCarouselModel", name := "putAside", desc := "(I)V" } : MethodName) prog_11_method_31_code (3 : Nat) (Option.none : Option ClassFile.FieldType)) ∈ bc_wd := bc_mem 1742 (by rfl) (by decide +kernel)
set_option maxRecDepth 100000 in
theorem mw_1743 : (Cond.methodLink "BroadcastCarouselModel" (335 : Nat) ({ cls := "BroadcastCarouselModel", name := "divide", desc := "(III)V" } : MethodName)) ∈ bc_wd := bc_mem 1743 (by rfl) (by decide +kernel)
set_option maxRecDepth 100000 in
theorem mw_1745 : (Cond.instanceMethod ({ cls := "BroadcastCarouselModel", name := "divide", desc := "(III)V" } : MethodName)) ∈ bc_wd := bc_mem 1745 (by rfl) (by decide +kernel)
set_option maxRecDepth 100000 in
theorem mw_92 : (Cond.selects "BroadcastCarouselModel" ({ cls := "BroadcastCarouselModel", name := "divide", desc := "(III)V" } : MethodName) ({ cls := "BroadcastCarouselModel", name := "divide", desc := "(III)V" } : MethodName)) ∈ bc_wd := bc_mem 92 (by rfl) (by decide +kernel)
set_option maxRecDepth 100000 in
theorem mw_1746 : (Cond.code ({ cls := "BroadcastCarouselModel", name := "divide", desc := "(III)V" } : MethodName) prog_11_method_67_code (7 : Nat) (Option.none : Option ClassFile.FieldType)) ∈ bc_wd := bc_mem 1746 (by rfl) (by decide +kernel)
set_option maxRecDepth 100000 in
theorem mw_1747 : (Cond.methodLink "BroadcastCarouselModel" (318 : Nat) ({ cls := "BroadcastCarouselModel", name := "assign", desc := "([II)V" } : MethodName)) ∈ bc_wd := bc_mem 1747 (by rfl) (by decide +kernel)
set_option maxRecDepth 100000 in
theorem mw_1749 : (Cond.instanceMethod ({ cls := "BroadcastCarouselModel", name := "assign", desc := "([II)V" } : MethodName)) ∈ bc_wd := bc_mem 1749 (by rfl) (by decide +kernel)
set_option maxRecDepth 100000 in
theorem mw_93 : (Cond.selects "BroadcastCarouselModel" ({ cls := "BroadcastCarouselModel", name := "assign", desc := "([II)V" } : MethodName) ({ cls := "BroadcastCarouselModel", name := "assign", desc := "([II)V" } : MethodName)) ∈ bc_wd := bc_mem 93 (by rfl) (by decide +kernel)
set_option maxRecDepth 100000 in
theorem mw_1750 : (Cond.code ({ cls := "BroadcastCarouselModel", name := "assign", desc := "([II)V" } : MethodName) prog_11_method_66_code (7 : Nat) (Option.none : Option ClassFile.FieldType)) ∈ bc_wd := bc_mem 1750 (by rfl) (by decide +kernel)
set_option maxRecDepth 100000 in
theorem mw_1751 : (Cond.methodLink "BroadcastCarouselModel" (315 : Nat) ({ cls := "BroadcastCarouselModel", name := "rankedDisk", desc := "(I)I" } : MethodName)) ∈ bc_wd := bc_mem 1751 (by rfl) (by decide +kernel)
set_option maxRecDepth 100000 in
theorem mw_1753 : (Cond.instanceMethod ({ cls := "BroadcastCarouselModel", name := "rankedDisk", desc := "(I)I" } : MethodName)) ∈ bc_wd := bc_mem 1753 (by rfl) (by decide +kernel)
set_option maxRecDepth 100000 in
theorem mw_94 : (Cond.selects "BroadcastCarouselModel" ({ cls := "BroadcastCarouselModel", name := "rankedDisk", desc := "(I)I" } : MethodName) ({ cls := "BroadcastCarouselModel", name := "rankedDisk", desc := "(I)I" } : MethodName)) ∈ bc_wd := bc_mem 94 (by rfl) (by decide +kernel)
set_option maxRecDepth 100000 in
theorem mw_1754 : (Cond.code ({ cls := "BroadcastCarouselModel", name := "rankedDisk", desc := "(I)I" } : MethodName) prog_11_method_65_code (6 : Nat) (Option.some ClassFile.FieldType.int)) ∈ bc_wd := bc_mem 1754 (by rfl) (by decide +kernel)
set_option maxRecDepth 100000 in
theorem mw_1755 : (Cond.methodLink "BroadcastCarouselModel" (321 : Nat) ({ cls := "BroadcastCarouselModel", name := "weightOf", desc := "(I)J" } : MethodName)) ∈ bc_wd := bc_mem 1755 (by rfl) (by decide +kernel)
set_option maxRecDepth 100000 in
theorem mw_1757 : (Cond.instanceMethod ({ cls := "BroadcastCarouselModel", name := "weightOf", desc := "(I)J" } : MethodName)) ∈ bc_wd := bc_mem 1757 (by rfl) (by decide +kernel)
set_option maxRecDepth 100000 in
theorem mw_95 : (Cond.selects "BroadcastCarouselModel" ({ cls := "BroadcastCarouselModel", name := "weightOf", desc := "(I)J" } : MethodName) ({ cls := "BroadcastCarouselModel", name := "weightOf", desc := "(I)J" } : MethodName)) ∈ bc_wd := bc_mem 95 (by rfl) (by decide +kernel)
set_option maxRecDepth 100000 in
theorem mw_1758 : (Cond.code ({ cls := "BroadcastCarouselModel", name := "weightOf", desc := "(I)J" } : MethodName) prog_11_method_46_code (6 : Nat) (Option.some ClassFile.FieldType.long)) ∈ bc_wd := bc_mem 1758 (by rfl) (by decide +kernel)
set_option maxRecDepth 100000 in
theorem mw_1759 : (Cond.methodLink "BroadcastCarouselModel" (344 : Nat) ({ cls := "BroadcastCarouselModel", name := "takeBack", desc := "(I)V" } : MethodName)) ∈ bc_wd := bc_mem 1759 (by rfl) (by decide +kernel)
set_option maxRecDepth 100000 in
theorem mw_1761 : (Cond.instanceMethod ({ cls := "BroadcastCarouselModel", name := "takeBack", desc := "(I)V" } : MethodName)) ∈ bc_wd := bc_mem 1761 (by rfl) (by decide +kernel)
set_option maxRecDepth 100000 in
theorem mw_96 : (Cond.selects "BroadcastCarouselModel" ({ cls := "BroadcastCarouselModel", name := "takeBack", desc := "(I)V" } : MethodName) ({ cls := "BroadcastCarouselModel", name := "takeBack", desc := "(I)V" } : MethodName)) ∈ bc_wd := bc_mem 96 (by rfl) (by decide +kernel)
set_option maxRecDepth 100000 in
theorem mw_1762 : (Cond.code ({ cls := "BroadcastCarouselModel", name := "takeBack", desc := "(I)V" } : MethodName) prog_11_method_32_code (3 : Nat) (Option.none : Option ClassFile.FieldType)) ∈ bc_wd := bc_mem 1762 (by rfl) (by decide +kernel)
set_option maxRecDepth 100000 in
theorem mw_1789 : (Cond.methodLink "BroadcastCarouselModel" (354 : Nat) ({ cls := "BroadcastCarouselModel", name := "timesOf", desc := "(I)I" } : MethodName)) ∈ bc_wd := bc_mem 1789 (by rfl) (by decide +kernel)
set_option maxRecDepth 100000 in
theorem mw_1791 : (Cond.instanceMethod ({ cls := "BroadcastCarouselModel", name := "timesOf", desc := "(I)I" } : MethodName)) ∈ bc_wd := bc_mem 1791 (by rfl) (by decide +kernel)
set_option maxRecDepth 100000 in
theorem mw_97 : (Cond.selects "BroadcastCarouselModel" ({ cls := "BroadcastCarouselModel", name := "timesOf", desc := "(I)I" } : MethodName) ({ cls := "BroadcastCarouselModel", name := "timesOf", desc := "(I)I" } : MethodName)) ∈ bc_wd := bc_mem 97 (by rfl) (by decide +kernel)
set_option maxRecDepth 100000 in
theorem mw_1792 : (Cond.code ({ cls := "BroadcastCarouselModel", name := "timesOf", desc := "(I)I" } : MethodName) prog_11_method_44_code (4 : Nat) (Option.some ClassFile.FieldType.int)) ∈ bc_wd := bc_mem 1792 (by rfl) (by decide +kernel)
set_option maxRecDepth 100000 in
theorem mw_1841 : (Cond.methodLink "BroadcastCarouselModel" (357 : Nat) ({ cls := "BroadcastCarouselModel", name := "isSet", desc := "(I)Z" } : MethodName)) ∈ bc_wd := bc_mem 1841 (by rfl) (by decide +kernel)
set_option maxRecDepth 100000 in
theorem mw_1843 : (Cond.instanceMethod ({ cls := "BroadcastCarouselModel", name := "isSet", desc := "(I)Z" } : MethodName)) ∈ bc_wd := bc_mem 1843 (by rfl) (by decide +kernel)
set_option maxRecDepth 100000 in
theorem mw_98 : (Cond.selects "BroadcastCarouselModel" ({ cls := "BroadcastCarouselModel", name := "isSet", desc := "(I)Z" } : MethodName) ({ cls := "BroadcastCarouselModel", name := "isSet", desc := "(I)Z" } : MethodName)) ∈ bc_wd := bc_mem 98 (by rfl) (by decide +kernel)
set_option maxRecDepth 100000 in
theorem mw_1844 : (Cond.code ({ cls := "BroadcastCarouselModel", name := "isSet", desc := "(I)Z" } : MethodName) prog_11_method_87_code (2 : Nat) (Option.some ClassFile.FieldType.boolean)) ∈ bc_wd := bc_mem 1844 (by rfl) (by decide +kernel)
set_option maxRecDepth 100000 in
theorem mw_1899 : (Cond.methodLink "BroadcastCarouselModel" (367 : Nat) ({ cls := "BroadcastCarouselModel", name := "leastWait", desc := "(IIZ)I" } : MethodName)) ∈ bc_wd := bc_mem 1899 (by rfl) (by decide +kernel)
set_option maxRecDepth 100000 in
theorem mw_1901 : (Cond.instanceMethod ({ cls := "BroadcastCarouselModel", name := "leastWait", desc := "(IIZ)I" } : MethodName)) ∈ bc_wd := bc_mem 1901 (by rfl) (by decide +kernel)
set_option maxRecDepth 100000 in
theorem mw_99 : (Cond.selects "BroadcastCarouselModel" ({ cls := "BroadcastCarouselModel", name := "leastWait", desc := "(IIZ)I" } : MethodName) ({ cls := "BroadcastCarouselModel", name := "leastWait", desc := "(IIZ)I" } : MethodName)) ∈ bc_wd := bc_mem 99 (by rfl) (by decide +kernel)
set_option maxRecDepth 100000 in
theorem mw_1902 : (Cond.code ({ cls := "BroadcastCarouselModel", name := "leastWait", desc := "(IIZ)I" } : MethodName) prog_11_method_102_code (8 : Nat) (Option.some ClassFile.FieldType.int)) ∈ bc_wd := bc_mem 1902 (by rfl) (by decide +kernel)
set_option maxRecDepth 100000 in
theorem mw_1903 : (Cond.methodLink "BroadcastCarouselModel" (364 : Nat) ({ cls := "BroadcastCarouselModel", name := "waitFor", desc := "(II)I" } : MethodName)) ∈ bc_wd := bc_mem 1903 (by rfl) (by decide +kernel)
set_option maxRecDepth 100000 in
theorem mw_1905 : (Cond.instanceMethod ({ cls := "BroadcastCarouselModel", name := "waitFor", desc := "(II)I" } : MethodName)) ∈ bc_wd := bc_mem 1905 (by rfl) (by decide +kernel)
set_option maxRecDepth 100000 in
theorem mw_100 : (Cond.selects "BroadcastCarouselModel" ({ cls := "BroadcastCarouselModel", name := "waitFor", desc := "(II)I" } : MethodName) ({ cls := "BroadcastCarouselModel", name := "waitFor", desc := "(II)I" } : MethodName)) ∈ bc_wd := bc_mem 100 (by rfl) (by decide +kernel)
set_option maxRecDepth 100000 in
theorem mw_1906 : (Cond.code ({ cls := "BroadcastCarouselModel", name := "waitFor", desc := "(II)I" } : MethodName) prog_11_method_101_code (3 : Nat) (Option.some ClassFile.FieldType.int)) ∈ bc_wd := bc_mem 1906 (by rfl) (by decide +kernel)
set_option maxRecDepth 100000 in
theorem mw_1915 : (Cond.methodLink "BroadcastCarouselModel" (380 : Nat) ({ cls := "BroadcastCarouselModel", name := "isPlan", desc := "(II)Z" } : MethodName)) ∈ bc_wd := bc_mem 1915 (by rfl) (by decide +kernel)
set_option maxRecDepth 100000 in
theorem mw_1917 : (Cond.instanceMethod ({ cls := "BroadcastCarouselModel", name := "isPlan", desc := "(II)Z" } : MethodName)) ∈ bc_wd := bc_mem 1917 (by rfl) (by decide +kernel)
set_option maxRecDepth 100000 in
theorem mw_101 : (Cond.selects "BroadcastCarouselModel" ({ cls := "BroadcastCarouselModel", name := "isPlan", desc := "(II)Z" } : MethodName) ({ cls := "BroadcastCarouselModel", name := "isPlan", desc := "(II)Z" } : MethodName)) ∈ bc_wd := bc_mem 101 (by rfl) (by decide +kernel)
set_option maxRecDepth 100000 in
theorem mw_1918 : (Cond.code ({ cls := "BroadcastCarouselModel", name := "isPlan", desc := "(II)Z" } : MethodName) prog_11_method_107_code (3 : Nat) (Option.some ClassFile.FieldType.boolean)) ∈ bc_wd := bc_mem 1918 (by rfl) (by decide +kernel)
set_option maxRecDepth 100000 in
theorem mw_1919 : (Cond.methodLink "BroadcastCarouselModel" (383 : Nat) ({ cls := "BroadcastCarouselModel", name := "findPlan", desc := "(II)V" } : MethodName)) ∈ bc_wd := bc_mem 1919 (by rfl) (by decide +kernel)
set_option maxRecDepth 100000 in
theorem mw_1921 : (Cond.instanceMethod ({ cls := "BroadcastCarouselModel", name := "findPlan", desc := "(II)V" } : MethodName)) ∈ bc_wd := bc_mem 1921 (by rfl) (by decide +kernel)
set_option maxRecDepth 100000 in
theorem mw_102 : (Cond.selects "BroadcastCarouselModel" ({ cls := "BroadcastCarouselModel", name := "findPlan", desc := "(II)V" } : MethodName) ({ cls := "BroadcastCarouselModel", name := "findPlan", desc := "(II)V" } : MethodName)) ∈ bc_wd := bc_mem 102 (by rfl) (by decide +kernel)
set_option maxRecDepth 100000 in
theorem mw_1922 : (Cond.code ({ cls := "BroadcastCarouselModel", name := "findPlan", desc := "(II)V" } : MethodName) prog_11_method_106_code (3 : Nat) (Option.none : Option ClassFile.FieldType)) ∈ bc_wd := bc_mem 1922 (by rfl) (by decide +kernel)
set_option maxRecDepth 100000 in
theorem mw_1923 : (Cond.methodLink "BroadcastCarouselModel" (377 : Nat) ({ cls := "BroadcastCarouselModel", name := "tries", desc := "(III)V" } : MethodName)) ∈ bc_wd := bc_mem 1923 (by rfl) (by decide +kernel)
set_option maxRecDepth 100000 in
theorem mw_1925 : (Cond.instanceMethod ({ cls := "BroadcastCarouselModel", name := "tries", desc := "(III)V" } : MethodName)) ∈ bc_wd := bc_mem 1925 (by rfl) (by decide +kernel)
set_option maxRecDepth 100000 in
theorem mw_103 : (Cond.selects "BroadcastCarouselModel" ({ cls := "BroadcastCarouselModel", name := "tries", desc := "(III)V" } : MethodName) ({ cls := "BroadcastCarouselModel", name := "tries", desc := "(III)V" } : MethodName)) ∈ bc_wd := bc_mem 103 (by rfl) (by decide +kernel)
set_option maxRecDepth 100000 in
theorem mw_1926 : (Cond.code ({ cls := "BroadcastCarouselModel", name := "tries", desc := "(III)V" } : MethodName) prog_11_method_105_code (6 : Nat) (Option.none : Option ClassFile.FieldType)) ∈ bc_wd := bc_mem 1926 (by rfl) (by decide +kernel)
set_option maxRecDepth 100000 in
theorem mw_858 : (Cond.constant "java/lang/Integer" (265 : Nat) (1431655765 : Int32)) ∈ bc_wd := bc_mem 858 (by rfl) (by decide +kernel)
set_option maxRecDepth 100000 in
theorem mw_859 : (Cond.constant "java/lang/Integer" (266 : Nat) (858993459 : Int32)) ∈ bc_wd := bc_mem 859 (by rfl) (by decide +kernel)
set_option maxRecDepth 100000 in
theorem mw_860 : (Cond.constant "java/lang/Integer" (267 : Nat) (252645135 : Int32)) ∈ bc_wd := bc_mem 860 (by rfl) (by decide +kernel)
set_option maxRecDepth 100000 in
theorem mw_1042 : (Cond.constant "BroadcastCarousel" (187 : Nat) (999999 : Int32)) ∈ bc_wd := bc_mem 1042 (by rfl) (by decide +kernel)
set_option maxRecDepth 100000 in
theorem mw_1218 : (Cond.constantLong "BroadcastCarousel" (257 : Nat) (-2 : Int64)) ∈ bc_wd := bc_mem 1218 (by rfl) (by decide +kernel)
set_option maxRecDepth 100000 in
theorem mw_1518 : (Cond.constantLong "BroadcastCarouselModel" (99 : Nat) (97 : Int64)) ∈ bc_wd := bc_mem 1518 (by rfl) (by decide +kernel)
set_option maxRecDepth 100000 in
theorem mw_1519 : (Cond.constantLong "BroadcastCarouselModel" (101 : Nat) (122 : Int64)) ∈ bc_wd := bc_mem 1519 (by rfl) (by decide +kernel)
set_option maxRecDepth 100000 in
theorem mw_1524 : (Cond.constantLong "BroadcastCarouselModel" (103 : Nat) (48 : Int64)) ∈ bc_wd := bc_mem 1524 (by rfl) (by decide +kernel)
set_option maxRecDepth 100000 in
theorem mw_1525 : (Cond.constantLong "BroadcastCarouselModel" (105 : Nat) (57 : Int64)) ∈ bc_wd := bc_mem 1525 (by rfl) (by decide +kernel)
set_option maxRecDepth 100000 in
theorem mw_1664 : (Cond.constantLong "BroadcastCarouselModel" (282 : Nat) (9999 : Int64)) ∈ bc_wd := bc_mem 1664 (by rfl) (by decide +kernel)
set_option maxRecDepth 100000 in
theorem mw_1673 : (Cond.constantLong "BroadcastCarouselModel" (287 : Nat) (99 : Int64)) ∈ bc_wd := bc_mem 1673 (by rfl) (by decide +kernel)
set_option maxRecDepth 100000 in
theorem mw_1682 : (Cond.constantLong "BroadcastCarouselModel" (292 : Nat) (999 : Int64)) ∈ bc_wd := bc_mem 1682 (by rfl) (by decide +kernel)
set_option maxRecDepth 100000 in
theorem mw_1691 : (Cond.constantLong "BroadcastCarouselModel" (297 : Nat) (6 : Int64)) ∈ bc_wd := bc_mem 1691 (by rfl) (by decide +kernel)
set_option maxRecDepth 100000 in
theorem mw_1696 : (Cond.constantLong "BroadcastCarouselModel" (299 : Nat) (8 : Int64)) ∈ bc_wd := bc_mem 1696 (by rfl) (by decide +kernel)
set_option maxRecDepth 100000 in
theorem mw_1697 : (Cond.constantLong "BroadcastCarouselModel" (301 : Nat) (4 : Int64)) ∈ bc_wd := bc_mem 1697 (by rfl) (by decide +kernel)
set_option maxRecDepth 100000 in
theorem mw_1767 : (Cond.constantLong "BroadcastCarouselModel" (350 : Nat) (2 : Int64)) ∈ bc_wd := bc_mem 1767 (by rfl) (by decide +kernel)
set_option maxRecDepth 100000 in
theorem mw_1784 : (Cond.constantLong "BroadcastCarouselModel" (352 : Nat) (999999 : Int64)) ∈ bc_wd := bc_mem 1784 (by rfl) (by decide +kernel)
set_option maxRecDepth 100000 in
theorem mw_1865 : (Cond.constantLong "BroadcastCarouselModel" (360 : Nat) (-2 : Int64)) ∈ bc_wd := bc_mem 1865 (by rfl) (by decide +kernel)
set_option maxRecDepth 100000 in
theorem mw_1882 : (Cond.constantLong "BroadcastCarouselModel" (362 : Nat) (5 : Int64)) ∈ bc_wd := bc_mem 1882 (by rfl) (by decide +kernel)
theorem in_X0 : ∀ w ∈ u_ws RX0 TX0 11, w ∈ bc_wd := by
  have h : u_ws RX0 TX0 11 = [(Cond.lays "BroadcastCarousel$Client" "BroadcastCarousel$Client" "capacity" "I"), (Cond.lays "BroadcastCarousel$Client" "BroadcastCarousel$Client" "policy" "I"), (Cond.lays "BroadcastCarousel$Client" "BroadcastCarousel$Client" "time" "I"), (Cond.lays "BroadcastCarousel$Client" "BroadcastCarousel$Client" "hits" "I"), (Cond.lays "BroadcastCarousel$Client" "BroadcastCarousel$Client" "misses" "I"), (Cond.lays "BroadcastCarousel$Client" "BroadcastCarousel$Client" "waited" "I"), (Cond.lays "BroadcastCarousel$Client" "BroadcastCarousel$Client" "listened" "I"), (Cond.lays "BroadcastCarousel$Client" "BroadcastCarousel$Client" "cached" "I"), (Cond.lays "BroadcastCarousel$Client" "BroadcastCarousel$Client" "asked" "I"), (Cond.laysFinal "BroadcastCarousel$Client" "BroadcastCarousel$Client" "counts" "[I"), (Cond.laysFinal "BroadcastCarousel$Client" "BroadcastCarousel$Client" "lastAsked" "[I")] := by rfl
  rw [h]
  exact List.forall_mem_cons.mpr ⟨mw_260, List.forall_mem_cons.mpr ⟨mw_262, List.forall_mem_cons.mpr ⟨mw_264, List.forall_mem_cons.mpr ⟨mw_266, List.forall_mem_cons.mpr ⟨mw_268, List.forall_mem_cons.mpr ⟨mw_270, List.forall_mem_cons.mpr ⟨mw_272, List.forall_mem_cons.mpr ⟨mw_274, List.forall_mem_cons.mpr ⟨mw_276, List.forall_mem_cons.mpr ⟨mw_278, List.forall_mem_cons.mpr ⟨mw_280, fun _ h => absurd h List.not_mem_nil⟩⟩⟩⟩⟩⟩⟩⟩⟩⟩⟩
theorem in_X1 : ∀ w ∈ u_ws RX1 TX1 3, w ∈ bc_wd := by
  have h : u_ws RX1 TX1 3 = [(Cond.lays "BroadcastCarousel$History" "BroadcastCarousel$History" "remembered" "I"), (Cond.lays "BroadcastCarousel$History" "BroadcastCarousel$History" "next" "I"), (Cond.laysFinal "BroadcastCarousel$History" "BroadcastCarousel$History" "ring" "[LBroadcastCarousel$State;")] := by rfl
  rw [h]
  exact List.forall_mem_cons.mpr ⟨mw_310, List.forall_mem_cons.mpr ⟨mw_312, List.forall_mem_cons.mpr ⟨mw_314, fun _ h => absurd h List.not_mem_nil⟩⟩⟩
theorem in_X2 : ∀ w ∈ u_ws RX2 TX2 7, w ∈ bc_wd := by
  have h : u_ws RX2 TX2 7 = [(Cond.lays "BroadcastCarousel$Parser" "BroadcastCarousel$Parser" "text" "[B"), (Cond.lays "BroadcastCarousel$Parser" "BroadcastCarousel$Parser" "length" "I"), (Cond.lays "BroadcastCarousel$Parser" "BroadcastCarousel$Parser" "error" "I"), (Cond.lays "BroadcastCarousel$Parser" "BroadcastCarousel$Parser" "start" "I"), (Cond.lays "BroadcastCarousel$Parser" "BroadcastCarousel$Parser" "end" "I"), (Cond.lays "BroadcastCarousel$Parser" "BroadcastCarousel$Parser" "kind" "I"), (Cond.lays "BroadcastCarousel$Parser" "BroadcastCarousel$Parser" "value" "I")] := by rfl
  rw [h]
  exact List.forall_mem_cons.mpr ⟨mw_150, List.forall_mem_cons.mpr ⟨mw_152, List.forall_mem_cons.mpr ⟨mw_154, List.forall_mem_cons.mpr ⟨mw_156, List.forall_mem_cons.mpr ⟨mw_158, List.forall_mem_cons.mpr ⟨mw_160, List.forall_mem_cons.mpr ⟨mw_162, fun _ h => absurd h List.not_mem_nil⟩⟩⟩⟩⟩⟩⟩
theorem in_X3 : ∀ w ∈ u_ws RX3 TX3 5, w ∈ bc_wd := by
  have h : u_ws RX3 TX3 5 = [(Cond.lays "BroadcastCarousel$Plan" "BroadcastCarousel$Plan" "bestTime" "I"), (Cond.laysFinal "BroadcastCarousel$Plan" "BroadcastCarousel$Plan" "best" "[I"), (Cond.lays "BroadcastCarousel$Plan" "BroadcastCarousel$Plan" "count" "I"), (Cond.laysFinal "BroadcastCarousel$Plan" "BroadcastCarousel$Plan" "order" "[I"), (Cond.laysFinal "BroadcastCarousel$Plan" "BroadcastCarousel$Plan" "scratch" "LBroadcastCarousel$Client;")] := by rfl
  rw [h]
  exact List.forall_mem_cons.mpr ⟨mw_414, List.forall_mem_cons.mpr ⟨mw_416, List.forall_mem_cons.mpr ⟨mw_418, List.forall_mem_cons.mpr ⟨mw_420, List.forall_mem_cons.mpr ⟨mw_422, fun _ h => absurd h List.not_mem_nil⟩⟩⟩⟩⟩
theorem in_X4 : ∀ w ∈ u_ws RX4 TX4 12, w ∈ bc_wd := by
  have h : u_ws RX4 TX4 12 = [(Cond.lays "BroadcastCarousel$Program" "BroadcastCarousel$Program" "cycle" "I"), (Cond.lays "BroadcastCarousel$Program" "BroadcastCarousel$Program" "dataSlots" "I"), (Cond.lays "BroadcastCarousel$Program" "BroadcastCarousel$Program" "segments" "I"), (Cond.lays "BroadcastCarousel$Program" "BroadcastCarousel$Program" "length" "I"), (Cond.laysFinal "BroadcastCarousel$Program" "BroadcastCarousel$Program" "starts" "[I"), (Cond.laysFinal "BroadcastCarousel$Program" "BroadcastCarousel$Program" "slots" "[I"), (Cond.laysFinal "BroadcastCarousel$Program" "BroadcastCarousel$Program" "times" "[[I"), (Cond.lays "BroadcastCarousel$Program" "BroadcastCarousel$Program" "rounds" "I"), (Cond.lays "BroadcastCarousel$Program" "BroadcastCarousel$Program" "roundLength" "I"), (Cond.laysFinal "BroadcastCarousel$Program" "BroadcastCarousel$Program" "members" "[I"), (Cond.laysFinal "BroadcastCarousel$Program" "BroadcastCarousel$Program" "chunk" "[I"), (Cond.laysFinal "BroadcastCarousel$Program" "BroadcastCarousel$Program" "offset" "[I")] := by rfl
  rw [h]
  exact List.forall_mem_cons.mpr ⟨mw_341, List.forall_mem_cons.mpr ⟨mw_343, List.forall_mem_cons.mpr ⟨mw_345, List.forall_mem_cons.mpr ⟨mw_347, List.forall_mem_cons.mpr ⟨mw_349, List.forall_mem_cons.mpr ⟨mw_351, List.forall_mem_cons.mpr ⟨mw_353, List.forall_mem_cons.mpr ⟨mw_355, List.forall_mem_cons.mpr ⟨mw_357, List.forall_mem_cons.mpr ⟨mw_359, List.forall_mem_cons.mpr ⟨mw_361, List.forall_mem_cons.mpr ⟨mw_363, fun _ h => absurd h List.not_mem_nil⟩⟩⟩⟩⟩⟩⟩⟩⟩⟩⟩⟩
theorem in_X5 : ∀ w ∈ u_ws RX5 TX5 8, w ∈ bc_wd := by
  have h : u_ws RX5 TX5 8 = [(Cond.lays "BroadcastCarousel$Settings" "BroadcastCarousel$Settings" "segments" "I"), (Cond.lays "BroadcastCarousel$Settings" "BroadcastCarousel$Settings" "length" "I"), (Cond.lays "BroadcastCarousel$Settings" "BroadcastCarousel$Settings" "disks" "I"), (Cond.lays "BroadcastCarousel$Settings" "BroadcastCarousel$Settings" "items" "I"), (Cond.laysFinal "BroadcastCarousel$Settings" "BroadcastCarousel$Settings" "speed" "[I"), (Cond.laysFinal "BroadcastCarousel$Settings" "BroadcastCarousel$Settings" "popularity" "[I"), (Cond.laysFinal "BroadcastCarousel$Settings" "BroadcastCarousel$Settings" "disk" "[I"), (Cond.laysFinal "BroadcastCarousel$Settings" "BroadcastCarousel$Settings" "bound" "[I")] := by rfl
  rw [h]
  exact List.forall_mem_cons.mpr ⟨mw_215, List.forall_mem_cons.mpr ⟨mw_217, List.forall_mem_cons.mpr ⟨mw_219, List.forall_mem_cons.mpr ⟨mw_221, List.forall_mem_cons.mpr ⟨mw_223, List.forall_mem_cons.mpr ⟨mw_225, List.forall_mem_cons.mpr ⟨mw_227, List.forall_mem_cons.mpr ⟨mw_229, fun _ h => absurd h List.not_mem_nil⟩⟩⟩⟩⟩⟩⟩⟩
theorem in_X6 : ∀ w ∈ u_ws RX6 TX6 3, w ∈ bc_wd := by
  have h : u_ws RX6 TX6 3 = [(Cond.laysFinal "BroadcastCarousel$State" "BroadcastCarousel$State" "settings" "LBroadcastCarousel$Settings;"), (Cond.lays "BroadcastCarousel$State" "BroadcastCarousel$State" "listeners" "I"), (Cond.laysFinal "BroadcastCarousel$State" "BroadcastCarousel$State" "clients" "[LBroadcastCarousel$Client;")] := by rfl
  rw [h]
  exact List.forall_mem_cons.mpr ⟨mw_290, List.forall_mem_cons.mpr ⟨mw_292, List.forall_mem_cons.mpr ⟨mw_294, fun _ h => absurd h List.not_mem_nil⟩⟩⟩
theorem in_X7 : ∀ w ∈ u_ws RX7 TX7 6, w ∈ bc_wd := by
  have h : u_ws RX7 TX7 6 = [(Cond.laysFinal "BroadcastCarousel$Tiers" "BroadcastCarousel$Tiers" "items" "[I"), (Cond.laysFinal "BroadcastCarousel$Tiers" "BroadcastCarousel$Tiers" "disks" "[I"), (Cond.laysFinal "BroadcastCarousel$Tiers" "BroadcastCarousel$Tiers" "bestSizes" "[I"), (Cond.lays "BroadcastCarousel$Tiers" "BroadcastCarousel$Tiers" "bestWeight" "J"), (Cond.lays "BroadcastCarousel$Tiers" "BroadcastCarousel$Tiers" "bestCycle" "I"), (Cond.laysFinal "BroadcastCarousel$Tiers" "BroadcastCarousel$Tiers" "sizes" "[I")] := by rfl
  rw [h]
  exact List.forall_mem_cons.mpr ⟨mw_386, List.forall_mem_cons.mpr ⟨mw_388, List.forall_mem_cons.mpr ⟨mw_390, List.forall_mem_cons.mpr ⟨mw_392, List.forall_mem_cons.mpr ⟨mw_394, List.forall_mem_cons.mpr ⟨mw_396, fun _ h => absurd h List.not_mem_nil⟩⟩⟩⟩⟩⟩
theorem in_X8 : ∀ w ∈ u_ws RX8 TX8 14, w ∈ bc_wd := by
  have h : u_ws RX8 TX8 14 = [(Cond.laysFinal "BroadcastCarousel" "BroadcastCarousel" "text" "[B"), (Cond.lays "BroadcastCarousel" "BroadcastCarousel" "textLength" "I"), (Cond.lays "BroadcastCarousel" "BroadcastCarousel" "wrongAt" "I"), (Cond.lays "BroadcastCarousel" "BroadcastCarousel" "loaded" "Z"), (Cond.laysFinal "BroadcastCarousel" "BroadcastCarousel" "parser" "LBroadcastCarousel$Parser;"), (Cond.laysFinal "BroadcastCarousel" "BroadcastCarousel" "draft" "LBroadcastCarousel$State;"), (Cond.laysFinal "BroadcastCarousel" "BroadcastCarousel" "now" "LBroadcastCarousel$State;"), (Cond.laysFinal "BroadcastCarousel" "BroadcastCarousel" "history" "LBroadcastCarousel$History;"), (Cond.laysFinal "BroadcastCarousel" "BroadcastCarousel" "program" "LBroadcastCarousel$Program;"), (Cond.laysFinal "BroadcastCarousel" "BroadcastCarousel" "trial" "LBroadcastCarousel$Settings;"), (Cond.laysFinal "BroadcastCarousel" "BroadcastCarousel" "trialProgram" "LBroadcastCarousel$Program;"), (Cond.laysFinal "BroadcastCarousel" "BroadcastCarousel" "trialClient" "LBroadcastCarousel$Client;"), (Cond.laysFinal "BroadcastCarousel" "BroadcastCarousel" "tiers" "LBroadcastCarousel$Tiers;"), (Cond.laysFinal "BroadcastCarousel" "BroadcastCarousel" "plan" "LBroadcastCarousel$Plan;")] := by rfl
  rw [h]
  exact List.forall_mem_cons.mpr ⟨mw_439, List.forall_mem_cons.mpr ⟨mw_441, List.forall_mem_cons.mpr ⟨mw_443, List.forall_mem_cons.mpr ⟨mw_445, List.forall_mem_cons.mpr ⟨mw_447, List.forall_mem_cons.mpr ⟨mw_449, List.forall_mem_cons.mpr ⟨mw_451, List.forall_mem_cons.mpr ⟨mw_453, List.forall_mem_cons.mpr ⟨mw_455, List.forall_mem_cons.mpr ⟨mw_457, List.forall_mem_cons.mpr ⟨mw_459, List.forall_mem_cons.mpr ⟨mw_461, List.forall_mem_cons.mpr ⟨mw_463, List.forall_mem_cons.mpr ⟨mw_465, fun _ h => absurd h List.not_mem_nil⟩⟩⟩⟩⟩⟩⟩⟩⟩⟩⟩⟩⟩⟩
theorem in_X9 : ∀ w ∈ u_ws RX9 TX9 42, w ∈ bc_wd := by
  have h : u_ws RX9 TX9 42 = [(Cond.laysFinal "BroadcastCarouselModel" "BroadcastCarouselModel" "row" "[I"), (Cond.laysFinal "BroadcastCarouselModel" "BroadcastCarouselModel" "past" "[I"), (Cond.lays "BroadcastCarouselModel" "BroadcastCarouselModel" "actions" "I"), (Cond.lays "BroadcastCarouselModel" "BroadcastCarouselModel" "isLoaded" "Z"), (Cond.lays "BroadcastCarouselModel" "BroadcastCarouselModel" "thrown" "I"), (Cond.lays "BroadcastCarouselModel" "BroadcastCarouselModel" "disks" "I"), (Cond.lays "BroadcastCarouselModel" "BroadcastCarouselModel" "items" "I"), (Cond.lays "BroadcastCarouselModel" "BroadcastCarouselModel" "clients" "I"), (Cond.laysFinal "BroadcastCarouselModel" "BroadcastCarouselModel" "capacity" "[I"), (Cond.laysFinal "BroadcastCarouselModel" "BroadcastCarouselModel" "policy" "[I"), (Cond.laysFinal "BroadcastCarouselModel" "BroadcastCarouselModel" "buffer" "[I"), (Cond.lays "BroadcastCarouselModel" "BroadcastCarouselModel" "buffered" "I"), (Cond.lays "BroadcastCarouselModel" "BroadcastCarouselModel" "textSize" "I"), (Cond.lays "BroadcastCarouselModel" "BroadcastCarouselModel" "at" "I"), (Cond.lays "BroadcastCarouselModel" "BroadcastCarouselModel" "start" "I"), (Cond.lays "BroadcastCarouselModel" "BroadcastCarouselModel" "token" "I"), (Cond.lays "BroadcastCarouselModel" "BroadcastCarouselModel" "number" "I"), (Cond.lays "BroadcastCarouselModel" "BroadcastCarouselModel" "errorCode" "I"), (Cond.lays "BroadcastCarouselModel" "BroadcastCarouselModel" "errorAt" "I"), (Cond.laysFinal "BroadcastCarouselModel" "BroadcastCarouselModel" "draft" "[I"), (Cond.lays "BroadcastCarouselModel" "BroadcastCarouselModel" "draftDisks" "I"), (Cond.lays "BroadcastCarouselModel" "BroadcastCarouselModel" "draftItems" "I"), (Cond.lays "BroadcastCarouselModel" "BroadcastCarouselModel" "draftClients" "I"), (Cond.laysFinal "BroadcastCarouselModel" "BroadcastCarouselModel" "aside" "[I"), (Cond.laysFinal "BroadcastCarouselModel" "BroadcastCarouselModel" "data" "[I"), (Cond.lays "BroadcastCarouselModel" "BroadcastCarouselModel" "dataSize" "I"), (Cond.laysFinal "BroadcastCarouselModel" "BroadcastCarouselModel" "program" "[I"), (Cond.lays "BroadcastCarouselModel" "BroadcastCarouselModel" "length" "I"), (Cond.laysFinal "BroadcastCarouselModel" "BroadcastCarouselModel" "far" "[I"), (Cond.laysFinal "BroadcastCarouselModel" "BroadcastCarouselModel" "farSegment" "[I"), (Cond.lays "BroadcastCarouselModel" "BroadcastCarouselModel" "removed" "I"), (Cond.laysFinal "BroadcastCarouselModel" "BroadcastCarouselModel" "order" "[I"), (Cond.laysFinal "BroadcastCarouselModel" "BroadcastCarouselModel" "sizes" "[I"), (Cond.laysFinal "BroadcastCarouselModel" "BroadcastCarouselModel" "bestSizes" "[I"), (Cond.lays "BroadcastCarouselModel" "BroadcastCarouselModel" "bestWeight" "J"), (Cond.lays "BroadcastCarouselModel" "BroadcastCarouselModel" "bestLength" "I"), (Cond.lays "BroadcastCarouselModel" "BroadcastCarouselModel" "isDivided" "Z"), (Cond.laysFinal "BroadcastCarouselModel" "BroadcastCarouselModel" "waiting" "[I"), (Cond.laysFinal "BroadcastCarouselModel" "BroadcastCarouselModel" "tried" "[I"), (Cond.laysFinal "BroadcastCarouselModel" "BroadcastCarouselModel" "plan" "[I"), (Cond.lays "BroadcastCarouselModel" "BroadcastCarouselModel" "planEnd" "I"), (Cond.lays "BroadcastCarouselModel" "BroadcastCarouselModel" "isPlanned" "Z")] := by rfl
  rw [h]
  exact List.forall_mem_cons.mpr ⟨mw_1394, List.forall_mem_cons.mpr ⟨mw_1396, List.forall_mem_cons.mpr ⟨mw_1398, List.forall_mem_cons.mpr ⟨mw_1400, List.forall_mem_cons.mpr ⟨mw_1402, List.forall_mem_cons.mpr ⟨mw_1404, List.forall_mem_cons.mpr ⟨mw_1406, List.forall_mem_cons.mpr ⟨mw_1408, List.forall_mem_cons.mpr ⟨mw_1410, List.forall_mem_cons.mpr ⟨mw_1412, List.forall_mem_cons.mpr ⟨mw_1414, List.forall_mem_cons.mpr ⟨mw_1416, List.forall_mem_cons.mpr ⟨mw_1418, List.forall_mem_cons.mpr ⟨mw_1420, List.forall_mem_cons.mpr ⟨mw_1422, List.forall_mem_cons.mpr ⟨mw_1424, List.forall_mem_cons.mpr ⟨mw_1426, List.forall_mem_cons.mpr ⟨mw_1428, List.forall_mem_cons.mpr ⟨mw_1430, List.forall_mem_cons.mpr ⟨mw_1432, List.forall_mem_cons.mpr ⟨mw_1434, List.forall_mem_cons.mpr ⟨mw_1436, List.forall_mem_cons.mpr ⟨mw_1438, List.forall_mem_cons.mpr ⟨mw_1440, List.forall_mem_cons.mpr ⟨mw_1442, List.forall_mem_cons.mpr ⟨mw_1444, List.forall_mem_cons.mpr ⟨mw_1446, List.forall_mem_cons.mpr ⟨mw_1448, List.forall_mem_cons.mpr ⟨mw_1450, List.forall_mem_cons.mpr ⟨mw_1452, List.forall_mem_cons.mpr ⟨mw_1454, List.forall_mem_cons.mpr ⟨mw_1456, List.forall_mem_cons.mpr ⟨mw_1458, List.forall_mem_cons.mpr ⟨mw_1460, List.forall_mem_cons.mpr ⟨mw_1462, List.forall_mem_cons.mpr ⟨mw_1464, List.forall_mem_cons.mpr ⟨mw_1466, List.forall_mem_cons.mpr ⟨mw_1468, List.forall_mem_cons.mpr ⟨mw_1470, List.forall_mem_cons.mpr ⟨mw_1472, List.forall_mem_cons.mpr ⟨mw_1474, List.forall_mem_cons.mpr ⟨mw_1476, fun _ h => absurd h List.not_mem_nil⟩⟩⟩⟩⟩⟩⟩⟩⟩⟩⟩⟩⟩⟩⟩⟩⟩⟩⟩⟩⟩⟩⟩⟩⟩⟩⟩⟩⟩⟩⟩⟩⟩⟩⟩⟩⟩⟩⟩⟩⟩⟩
theorem kc_J6_265 : Cond.constant RJ6 265 (1431655765) ∈ bc_wd := mw_858
theorem kc_J6_266 : Cond.constant RJ6 266 (858993459) ∈ bc_wd := mw_859
theorem kc_J6_267 : Cond.constant RJ6 267 (252645135) ∈ bc_wd := mw_860
theorem kc_X8_187 : Cond.constant RX8 187 (999999) ∈ bc_wd := mw_1042
theorem kc_X8_257 : Cond.constantLong RX8 257 (-2) ∈ bc_wd := mw_1218
theorem kc_X9_99 : Cond.constantLong RX9 99 (97) ∈ bc_wd := mw_1518
theorem kc_X9_101 : Cond.constantLong RX9 101 (122) ∈ bc_wd := mw_1519
theorem kc_X9_103 : Cond.constantLong RX9 103 (48) ∈ bc_wd := mw_1524
theorem kc_X9_105 : Cond.constantLong RX9 105 (57) ∈ bc_wd := mw_1525
theorem kc_X9_282 : Cond.constantLong RX9 282 (9999) ∈ bc_wd := mw_1664
theorem kc_X9_287 : Cond.constantLong RX9 287 (99) ∈ bc_wd := mw_1673
theorem kc_X9_292 : Cond.constantLong RX9 292 (999) ∈ bc_wd := mw_1682
theorem kc_X9_297 : Cond.constantLong RX9 297 (6) ∈ bc_wd := mw_1691
theorem kc_X9_299 : Cond.constantLong RX9 299 (8) ∈ bc_wd := mw_1696
theorem kc_X9_301 : Cond.constantLong RX9 301 (4) ∈ bc_wd := mw_1697
theorem kc_X9_350 : Cond.constantLong RX9 350 (2) ∈ bc_wd := mw_1767
theorem kc_X9_352 : Cond.constantLong RX9 352 (999999) ∈ bc_wd := mw_1784
theorem kc_X9_360 : Cond.constantLong RX9 360 (-2) ∈ bc_wd := mw_1865
theorem kc_X9_362 : Cond.constantLong RX9 362 (5) ∈ bc_wd := mw_1882

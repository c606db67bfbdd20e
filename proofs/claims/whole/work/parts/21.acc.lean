theorem EV_kinds_s_kinds (z : EV) (v : (Nat → Int32)) : EV_kinds (EV_s_kinds z v) = v := rfl
theorem EV_kinds_s_sizes (z : EV) (v : (Nat → Int32)) : EV_kinds (EV_s_sizes z v) = EV_kinds z := rfl
theorem EV_kinds_s_ons (z : EV) (v : (Nat → Int32)) : EV_kinds (EV_s_ons z v) = EV_kinds z := rfl
theorem EV_kinds_s_stucks (z : EV) (v : (Nat → Int32)) : EV_kinds (EV_s_stucks z v) = EV_kinds z := rfl
theorem EV_kinds_s_musts (z : EV) (v : (Nat → Int32)) : EV_kinds (EV_s_musts z v) = EV_kinds z := rfl
theorem EV_kinds_s_nots (z : EV) (v : (Nat → Int32)) : EV_kinds (EV_s_nots z v) = EV_kinds z := rfl
theorem EV_kinds_s_ringMinutes (z : EV) (v : (Nat → Int32)) : EV_kinds (EV_s_ringMinutes z v) = EV_kinds z := rfl
theorem EV_kinds_s_bars (z : EV) (v : Int32) : EV_kinds (EV_s_bars z v) = EV_kinds z := rfl
theorem EV_kinds_s_moved (z : EV) (v : Int32) : EV_kinds (EV_s_moved z v) = EV_kinds z := rfl
theorem EV_kinds_s_seed (z : EV) (v : Int32) : EV_kinds (EV_s_seed z v) = EV_kinds z := rfl
theorem EV_sizes_s_kinds (z : EV) (v : (Nat → Int32)) : EV_sizes (EV_s_kinds z v) = EV_sizes z := rfl
theorem EV_sizes_s_sizes (z : EV) (v : (Nat → Int32)) : EV_sizes (EV_s_sizes z v) = v := rfl
theorem EV_sizes_s_ons (z : EV) (v : (Nat → Int32)) : EV_sizes (EV_s_ons z v) = EV_sizes z := rfl
theorem EV_sizes_s_stucks (z : EV) (v : (Nat → Int32)) : EV_sizes (EV_s_stucks z v) = EV_sizes z := rfl
theorem EV_sizes_s_musts (z : EV) (v : (Nat → Int32)) : EV_sizes (EV_s_musts z v) = EV_sizes z := rfl
theorem EV_sizes_s_nots (z : EV) (v : (Nat → Int32)) : EV_sizes (EV_s_nots z v) = EV_sizes z := rfl
theorem EV_sizes_s_ringMinutes (z : EV) (v : (Nat → Int32)) : EV_sizes (EV_s_ringMinutes z v) = EV_sizes z := rfl
theorem EV_sizes_s_bars (z : EV) (v : Int32) : EV_sizes (EV_s_bars z v) = EV_sizes z := rfl
theorem EV_sizes_s_moved (z : EV) (v : Int32) : EV_sizes (EV_s_moved z v) = EV_sizes z := rfl
theorem EV_sizes_s_seed (z : EV) (v : Int32) : EV_sizes (EV_s_seed z v) = EV_sizes z := rfl
theorem EV_ons_s_kinds (z : EV) (v : (Nat → Int32)) : EV_ons (EV_s_kinds z v) = EV_ons z := rfl
theorem EV_ons_s_sizes (z : EV) (v : (Nat → Int32)) : EV_ons (EV_s_sizes z v) = EV_ons z := rfl
theorem EV_ons_s_ons (z : EV) (v : (Nat → Int32)) : EV_ons (EV_s_ons z v) = v := rfl
theorem EV_ons_s_stucks (z : EV) (v : (Nat → Int32)) : EV_ons (EV_s_stucks z v) = EV_ons z := rfl
theorem EV_ons_s_musts (z : EV) (v : (Nat → Int32)) : EV_ons (EV_s_musts z v) = EV_ons z := rfl
theorem EV_ons_s_nots (z : EV) (v : (Nat → Int32)) : EV_ons (EV_s_nots z v) = EV_ons z := rfl
theorem EV_ons_s_ringMinutes (z : EV) (v : (Nat → Int32)) : EV_ons (EV_s_ringMinutes z v) = EV_ons z := rfl
theorem EV_ons_s_bars (z : EV) (v : Int32) : EV_ons (EV_s_bars z v) = EV_ons z := rfl
theorem EV_ons_s_moved (z : EV) (v : Int32) : EV_ons (EV_s_moved z v) = EV_ons z := rfl
theorem EV_ons_s_seed (z : EV) (v : Int32) : EV_ons (EV_s_seed z v) = EV_ons z := rfl
theorem EV_stucks_s_kinds (z : EV) (v : (Nat → Int32)) : EV_stucks (EV_s_kinds z v) = EV_stucks z := rfl
theorem EV_stucks_s_sizes (z : EV) (v : (Nat → Int32)) : EV_stucks (EV_s_sizes z v) = EV_stucks z := rfl
theorem EV_stucks_s_ons (z : EV) (v : (Nat → Int32)) : EV_stucks (EV_s_ons z v) = EV_stucks z := rfl
theorem EV_stucks_s_stucks (z : EV) (v : (Nat → Int32)) : EV_stucks (EV_s_stucks z v) = v := rfl
theorem EV_stucks_s_musts (z : EV) (v : (Nat → Int32)) : EV_stucks (EV_s_musts z v) = EV_stucks z := rfl
theorem EV_stucks_s_nots (z : EV) (v : (Nat → Int32)) : EV_stucks (EV_s_nots z v) = EV_stucks z := rfl
theorem EV_stucks_s_ringMinutes (z : EV) (v : (Nat → Int32)) : EV_stucks (EV_s_ringMinutes z v) = EV_stucks z := rfl
theorem EV_stucks_s_bars (z : EV) (v : Int32) : EV_stucks (EV_s_bars z v) = EV_stucks z := rfl
theorem EV_stucks_s_moved (z : EV) (v : Int32) : EV_stucks (EV_s_moved z v) = EV_stucks z := rfl
theorem EV_stucks_s_seed (z : EV) (v : Int32) : EV_stucks (EV_s_seed z v) = EV_stucks z := rfl
theorem EV_musts_s_kinds (z : EV) (v : (Nat → Int32)) : EV_musts (EV_s_kinds z v) = EV_musts z := rfl
theorem EV_musts_s_sizes (z : EV) (v : (Nat → Int32)) : EV_musts (EV_s_sizes z v) = EV_musts z := rfl
theorem EV_musts_s_ons (z : EV) (v : (Nat → Int32)) : EV_musts (EV_s_ons z v) = EV_musts z := rfl
theorem EV_musts_s_stucks (z : EV) (v : (Nat → Int32)) : EV_musts (EV_s_stucks z v) = EV_musts z := rfl
theorem EV_musts_s_musts (z : EV) (v : (Nat → Int32)) : EV_musts (EV_s_musts z v) = v := rfl
theorem EV_musts_s_nots (z : EV) (v : (Nat → Int32)) : EV_musts (EV_s_nots z v) = EV_musts z := rfl
theorem EV_musts_s_ringMinutes (z : EV) (v : (Nat → Int32)) : EV_musts (EV_s_ringMinutes z v) = EV_musts z := rfl
theorem EV_musts_s_bars (z : EV) (v : Int32) : EV_musts (EV_s_bars z v) = EV_musts z := rfl
theorem EV_musts_s_moved (z : EV) (v : Int32) : EV_musts (EV_s_moved z v) = EV_musts z := rfl
theorem EV_musts_s_seed (z : EV) (v : Int32) : EV_musts (EV_s_seed z v) = EV_musts z := rfl
theorem EV_nots_s_kinds (z : EV) (v : (Nat → Int32)) : EV_nots (EV_s_kinds z v) = EV_nots z := rfl
theorem EV_nots_s_sizes (z : EV) (v : (Nat → Int32)) : EV_nots (EV_s_sizes z v) = EV_nots z := rfl
theorem EV_nots_s_ons (z : EV) (v : (Nat → Int32)) : EV_nots (EV_s_ons z v) = EV_nots z := rfl
theorem EV_nots_s_stucks (z : EV) (v : (Nat → Int32)) : EV_nots (EV_s_stucks z v) = EV_nots z := rfl
theorem EV_nots_s_musts (z : EV) (v : (Nat → Int32)) : EV_nots (EV_s_musts z v) = EV_nots z := rfl
theorem EV_nots_s_nots (z : EV) (v : (Nat → Int32)) : EV_nots (EV_s_nots z v) = v := rfl
theorem EV_nots_s_ringMinutes (z : EV) (v : (Nat → Int32)) : EV_nots (EV_s_ringMinutes z v) = EV_nots z := rfl
theorem EV_nots_s_bars (z : EV) (v : Int32) : EV_nots (EV_s_bars z v) = EV_nots z := rfl
theorem EV_nots_s_moved (z : EV) (v : Int32) : EV_nots (EV_s_moved z v) = EV_nots z := rfl
theorem EV_nots_s_seed (z : EV) (v : Int32) : EV_nots (EV_s_seed z v) = EV_nots z := rfl
theorem EV_ringMinutes_s_kinds (z : EV) (v : (Nat → Int32)) : EV_ringMinutes (EV_s_kinds z v) = EV_ringMinutes z := rfl
theorem EV_ringMinutes_s_sizes (z : EV) (v : (Nat → Int32)) : EV_ringMinutes (EV_s_sizes z v) = EV_ringMinutes z := rfl
theorem EV_ringMinutes_s_ons (z : EV) (v : (Nat → Int32)) : EV_ringMinutes (EV_s_ons z v) = EV_ringMinutes z := rfl
theorem EV_ringMinutes_s_stucks (z : EV) (v : (Nat → Int32)) : EV_ringMinutes (EV_s_stucks z v) = EV_ringMinutes z := rfl
theorem EV_ringMinutes_s_musts (z : EV) (v : (Nat → Int32)) : EV_ringMinutes (EV_s_musts z v) = EV_ringMinutes z := rfl
theorem EV_ringMinutes_s_nots (z : EV) (v : (Nat → Int32)) : EV_ringMinutes (EV_s_nots z v) = EV_ringMinutes z := rfl
theorem EV_ringMinutes_s_ringMinutes (z : EV) (v : (Nat → Int32)) : EV_ringMinutes (EV_s_ringMinutes z v) = v := rfl
theorem EV_ringMinutes_s_bars (z : EV) (v : Int32) : EV_ringMinutes (EV_s_bars z v) = EV_ringMinutes z := rfl
theorem EV_ringMinutes_s_moved (z : EV) (v : Int32) : EV_ringMinutes (EV_s_moved z v) = EV_ringMinutes z := rfl
theorem EV_ringMinutes_s_seed (z : EV) (v : Int32) : EV_ringMinutes (EV_s_seed z v) = EV_ringMinutes z := rfl
theorem EV_bars_s_kinds (z : EV) (v : (Nat → Int32)) : EV_bars (EV_s_kinds z v) = EV_bars z := rfl
theorem EV_bars_s_sizes (z : EV) (v : (Nat → Int32)) : EV_bars (EV_s_sizes z v) = EV_bars z := rfl
theorem EV_bars_s_ons (z : EV) (v : (Nat → Int32)) : EV_bars (EV_s_ons z v) = EV_bars z := rfl
theorem EV_bars_s_stucks (z : EV) (v : (Nat → Int32)) : EV_bars (EV_s_stucks z v) = EV_bars z := rfl
theorem EV_bars_s_musts (z : EV) (v : (Nat → Int32)) : EV_bars (EV_s_musts z v) = EV_bars z := rfl
theorem EV_bars_s_nots (z : EV) (v : (Nat → Int32)) : EV_bars (EV_s_nots z v) = EV_bars z := rfl
theorem EV_bars_s_ringMinutes (z : EV) (v : (Nat → Int32)) : EV_bars (EV_s_ringMinutes z v) = EV_bars z := rfl
theorem EV_bars_s_bars (z : EV) (v : Int32) : EV_bars (EV_s_bars z v) = v := rfl
theorem EV_bars_s_moved (z : EV) (v : Int32) : EV_bars (EV_s_moved z v) = EV_bars z := rfl
theorem EV_bars_s_seed (z : EV) (v : Int32) : EV_bars (EV_s_seed z v) = EV_bars z := rfl
theorem EV_moved_s_kinds (z : EV) (v : (Nat → Int32)) : EV_moved (EV_s_kinds z v) = EV_moved z := rfl
theorem EV_moved_s_sizes (z : EV) (v : (Nat → Int32)) : EV_moved (EV_s_sizes z v) = EV_moved z := rfl
theorem EV_moved_s_ons (z : EV) (v : (Nat → Int32)) : EV_moved (EV_s_ons z v) = EV_moved z := rfl
theorem EV_moved_s_stucks (z : EV) (v : (Nat → Int32)) : EV_moved (EV_s_stucks z v) = EV_moved z := rfl
theorem EV_moved_s_musts (z : EV) (v : (Nat → Int32)) : EV_moved (EV_s_musts z v) = EV_moved z := rfl
theorem EV_moved_s_nots (z : EV) (v : (Nat → Int32)) : EV_moved (EV_s_nots z v) = EV_moved z := rfl
theorem EV_moved_s_ringMinutes (z : EV) (v : (Nat → Int32)) : EV_moved (EV_s_ringMinutes z v) = EV_moved z := rfl
theorem EV_moved_s_bars (z : EV) (v : Int32) : EV_moved (EV_s_bars z v) = EV_moved z := rfl
theorem EV_moved_s_moved (z : EV) (v : Int32) : EV_moved (EV_s_moved z v) = v := rfl
theorem EV_moved_s_seed (z : EV) (v : Int32) : EV_moved (EV_s_seed z v) = EV_moved z := rfl
theorem EV_seed_s_kinds (z : EV) (v : (Nat → Int32)) : EV_seed (EV_s_kinds z v) = EV_seed z := rfl
theorem EV_seed_s_sizes (z : EV) (v : (Nat → Int32)) : EV_seed (EV_s_sizes z v) = EV_seed z := rfl
theorem EV_seed_s_ons (z : EV) (v : (Nat → Int32)) : EV_seed (EV_s_ons z v) = EV_seed z := rfl
theorem EV_seed_s_stucks (z : EV) (v : (Nat → Int32)) : EV_seed (EV_s_stucks z v) = EV_seed z := rfl
theorem EV_seed_s_musts (z : EV) (v : (Nat → Int32)) : EV_seed (EV_s_musts z v) = EV_seed z := rfl
theorem EV_seed_s_nots (z : EV) (v : (Nat → Int32)) : EV_seed (EV_s_nots z v) = EV_seed z := rfl
theorem EV_seed_s_ringMinutes (z : EV) (v : (Nat → Int32)) : EV_seed (EV_s_ringMinutes z v) = EV_seed z := rfl
theorem EV_seed_s_bars (z : EV) (v : Int32) : EV_seed (EV_s_bars z v) = EV_seed z := rfl
theorem EV_seed_s_moved (z : EV) (v : Int32) : EV_seed (EV_s_moved z v) = EV_seed z := rfl
theorem EV_seed_s_seed (z : EV) (v : Int32) : EV_seed (EV_s_seed z v) = v := rfl
theorem LW_kind_s_kind (z : LW) (v : Int32) : LW_kind (LW_s_kind z v) = v := rfl
theorem LW_kind_s_size (z : LW) (v : Int32) : LW_kind (LW_s_size z v) = LW_kind z := rfl
theorem LW_kind_s_stuck (z : LW) (v : Int32) : LW_kind (LW_s_stuck z v) = LW_kind z := rfl
theorem LW_kind_s_musts (z : LW) (v : (Nat → Int32)) : LW_kind (LW_s_musts z v) = LW_kind z := rfl
theorem LW_kind_s_nots (z : LW) (v : (Nat → Int32)) : LW_kind (LW_s_nots z v) = LW_kind z := rfl
theorem LW_size_s_kind (z : LW) (v : Int32) : LW_size (LW_s_kind z v) = LW_size z := rfl
theorem LW_size_s_size (z : LW) (v : Int32) : LW_size (LW_s_size z v) = v := rfl
theorem LW_size_s_stuck (z : LW) (v : Int32) : LW_size (LW_s_stuck z v) = LW_size z := rfl
theorem LW_size_s_musts (z : LW) (v : (Nat → Int32)) : LW_size (LW_s_musts z v) = LW_size z := rfl
theorem LW_size_s_nots (z : LW) (v : (Nat → Int32)) : LW_size (LW_s_nots z v) = LW_size z := rfl
theorem LW_stuck_s_kind (z : LW) (v : Int32) : LW_stuck (LW_s_kind z v) = LW_stuck z := rfl
theorem LW_stuck_s_size (z : LW) (v : Int32) : LW_stuck (LW_s_size z v) = LW_stuck z := rfl
theorem LW_stuck_s_stuck (z : LW) (v : Int32) : LW_stuck (LW_s_stuck z v) = v := rfl
theorem LW_stuck_s_musts (z : LW) (v : (Nat → Int32)) : LW_stuck (LW_s_musts z v) = LW_stuck z := rfl
theorem LW_stuck_s_nots (z : LW) (v : (Nat → Int32)) : LW_stuck (LW_s_nots z v) = LW_stuck z := rfl
theorem LW_musts_s_kind (z : LW) (v : Int32) : LW_musts (LW_s_kind z v) = LW_musts z := rfl
theorem LW_musts_s_size (z : LW) (v : Int32) : LW_musts (LW_s_size z v) = LW_musts z := rfl
theorem LW_musts_s_stuck (z : LW) (v : Int32) : LW_musts (LW_s_stuck z v) = LW_musts z := rfl
theorem LW_musts_s_musts (z : LW) (v : (Nat → Int32)) : LW_musts (LW_s_musts z v) = v := rfl
theorem LW_musts_s_nots (z : LW) (v : (Nat → Int32)) : LW_musts (LW_s_nots z v) = LW_musts z := rfl
theorem LW_nots_s_kind (z : LW) (v : Int32) : LW_nots (LW_s_kind z v) = LW_nots z := rfl
theorem LW_nots_s_size (z : LW) (v : Int32) : LW_nots (LW_s_size z v) = LW_nots z := rfl
theorem LW_nots_s_stuck (z : LW) (v : Int32) : LW_nots (LW_s_stuck z v) = LW_nots z := rfl
theorem LW_nots_s_musts (z : LW) (v : (Nat → Int32)) : LW_nots (LW_s_musts z v) = LW_nots z := rfl
theorem LW_nots_s_nots (z : LW) (v : (Nat → Int32)) : LW_nots (LW_s_nots z v) = v := rfl
theorem SE_legal_s_legal (z : SE) (v : (Nat → Int32)) : SE_legal (SE_s_legal z v) = v := rfl
theorem SE_legal_s_far (z : SE) (v : (Nat → Int32)) : SE_legal (SE_s_far z v) = SE_legal z := rfl
theorem SE_legal_s_queue (z : SE) (v : (Nat → Int32)) : SE_legal (SE_s_queue z v) = SE_legal z := rfl
theorem SE_legal_s_parts (z : SE) (v : (Nat → Int32)) : SE_legal (SE_s_parts z v) = SE_legal z := rfl
theorem SE_legal_s_nextParts (z : SE) (v : (Nat → Int32)) : SE_legal (SE_s_nextParts z v) = SE_legal z := rfl
theorem SE_legal_s_size (z : SE) (v : Int32) : SE_legal (SE_s_size z v) = SE_legal z := rfl
theorem SE_legal_s_sets (z : SE) (v : Int32) : SE_legal (SE_s_sets z v) = SE_legal z := rfl
theorem SE_legal_s_found (z : SE) (v : Int32) : SE_legal (SE_s_found z v) = SE_legal z := rfl
theorem SE_far_s_legal (z : SE) (v : (Nat → Int32)) : SE_far (SE_s_legal z v) = SE_far z := rfl
theorem SE_far_s_far (z : SE) (v : (Nat → Int32)) : SE_far (SE_s_far z v) = v := rfl
theorem SE_far_s_queue (z : SE) (v : (Nat → Int32)) : SE_far (SE_s_queue z v) = SE_far z := rfl
theorem SE_far_s_parts (z : SE) (v : (Nat → Int32)) : SE_far (SE_s_parts z v) = SE_far z := rfl
theorem SE_far_s_nextParts (z : SE) (v : (Nat → Int32)) : SE_far (SE_s_nextParts z v) = SE_far z := rfl
theorem SE_far_s_size (z : SE) (v : Int32) : SE_far (SE_s_size z v) = SE_far z := rfl
theorem SE_far_s_sets (z : SE) (v : Int32) : SE_far (SE_s_sets z v) = SE_far z := rfl
theorem SE_far_s_found (z : SE) (v : Int32) : SE_far (SE_s_found z v) = SE_far z := rfl
theorem SE_queue_s_legal (z : SE) (v : (Nat → Int32)) : SE_queue (SE_s_legal z v) = SE_queue z := rfl
theorem SE_queue_s_far (z : SE) (v : (Nat → Int32)) : SE_queue (SE_s_far z v) = SE_queue z := rfl
theorem SE_queue_s_queue (z : SE) (v : (Nat → Int32)) : SE_queue (SE_s_queue z v) = v := rfl
theorem SE_queue_s_parts (z : SE) (v : (Nat → Int32)) : SE_queue (SE_s_parts z v) = SE_queue z := rfl
theorem SE_queue_s_nextParts (z : SE) (v : (Nat → Int32)) : SE_queue (SE_s_nextParts z v) = SE_queue z := rfl
theorem SE_queue_s_size (z : SE) (v : Int32) : SE_queue (SE_s_size z v) = SE_queue z := rfl
theorem SE_queue_s_sets (z : SE) (v : Int32) : SE_queue (SE_s_sets z v) = SE_queue z := rfl
theorem SE_queue_s_found (z : SE) (v : Int32) : SE_queue (SE_s_found z v) = SE_queue z := rfl
theorem SE_parts_s_legal (z : SE) (v : (Nat → Int32)) : SE_parts (SE_s_legal z v) = SE_parts z := rfl
theorem SE_parts_s_far (z : SE) (v : (Nat → Int32)) : SE_parts (SE_s_far z v) = SE_parts z := rfl
theorem SE_parts_s_queue (z : SE) (v : (Nat → Int32)) : SE_parts (SE_s_queue z v) = SE_parts z := rfl
theorem SE_parts_s_parts (z : SE) (v : (Nat → Int32)) : SE_parts (SE_s_parts z v) = v := rfl
theorem SE_parts_s_nextParts (z : SE) (v : (Nat → Int32)) : SE_parts (SE_s_nextParts z v) = SE_parts z := rfl
theorem SE_parts_s_size (z : SE) (v : Int32) : SE_parts (SE_s_size z v) = SE_parts z := rfl
theorem SE_parts_s_sets (z : SE) (v : Int32) : SE_parts (SE_s_sets z v) = SE_parts z := rfl
theorem SE_parts_s_found (z : SE) (v : Int32) : SE_parts (SE_s_found z v) = SE_parts z := rfl
theorem SE_nextParts_s_legal (z : SE) (v : (Nat → Int32)) : SE_nextParts (SE_s_legal z v) = SE_nextParts z := rfl
theorem SE_nextParts_s_far (z : SE) (v : (Nat → Int32)) : SE_nextParts (SE_s_far z v) = SE_nextParts z := rfl
theorem SE_nextParts_s_queue (z : SE) (v : (Nat → Int32)) : SE_nextParts (SE_s_queue z v) = SE_nextParts z := rfl
theorem SE_nextParts_s_parts (z : SE) (v : (Nat → Int32)) : SE_nextParts (SE_s_parts z v) = SE_nextParts z := rfl
theorem SE_nextParts_s_nextParts (z : SE) (v : (Nat → Int32)) : SE_nextParts (SE_s_nextParts z v) = v := rfl
theorem SE_nextParts_s_size (z : SE) (v : Int32) : SE_nextParts (SE_s_size z v) = SE_nextParts z := rfl
theorem SE_nextParts_s_sets (z : SE) (v : Int32) : SE_nextParts (SE_s_sets z v) = SE_nextParts z := rfl
theorem SE_nextParts_s_found (z : SE) (v : Int32) : SE_nextParts (SE_s_found z v) = SE_nextParts z := rfl
theorem SE_size_s_legal (z : SE) (v : (Nat → Int32)) : SE_size (SE_s_legal z v) = SE_size z := rfl
theorem SE_size_s_far (z : SE) (v : (Nat → Int32)) : SE_size (SE_s_far z v) = SE_size z := rfl
theorem SE_size_s_queue (z : SE) (v : (Nat → Int32)) : SE_size (SE_s_queue z v) = SE_size z := rfl
theorem SE_size_s_parts (z : SE) (v : (Nat → Int32)) : SE_size (SE_s_parts z v) = SE_size z := rfl
theorem SE_size_s_nextParts (z : SE) (v : (Nat → Int32)) : SE_size (SE_s_nextParts z v) = SE_size z := rfl
theorem SE_size_s_size (z : SE) (v : Int32) : SE_size (SE_s_size z v) = v := rfl
theorem SE_size_s_sets (z : SE) (v : Int32) : SE_size (SE_s_sets z v) = SE_size z := rfl
theorem SE_size_s_found (z : SE) (v : Int32) : SE_size (SE_s_found z v) = SE_size z := rfl
theorem SE_sets_s_legal (z : SE) (v : (Nat → Int32)) : SE_sets (SE_s_legal z v) = SE_sets z := rfl
theorem SE_sets_s_far (z : SE) (v : (Nat → Int32)) : SE_sets (SE_s_far z v) = SE_sets z := rfl
theorem SE_sets_s_queue (z : SE) (v : (Nat → Int32)) : SE_sets (SE_s_queue z v) = SE_sets z := rfl
theorem SE_sets_s_parts (z : SE) (v : (Nat → Int32)) : SE_sets (SE_s_parts z v) = SE_sets z := rfl
theorem SE_sets_s_nextParts (z : SE) (v : (Nat → Int32)) : SE_sets (SE_s_nextParts z v) = SE_sets z := rfl
theorem SE_sets_s_size (z : SE) (v : Int32) : SE_sets (SE_s_size z v) = SE_sets z := rfl
theorem SE_sets_s_sets (z : SE) (v : Int32) : SE_sets (SE_s_sets z v) = v := rfl
theorem SE_sets_s_found (z : SE) (v : Int32) : SE_sets (SE_s_found z v) = SE_sets z := rfl
theorem SE_found_s_legal (z : SE) (v : (Nat → Int32)) : SE_found (SE_s_legal z v) = SE_found z := rfl
theorem SE_found_s_far (z : SE) (v : (Nat → Int32)) : SE_found (SE_s_far z v) = SE_found z := rfl
theorem SE_found_s_queue (z : SE) (v : (Nat → Int32)) : SE_found (SE_s_queue z v) = SE_found z := rfl
theorem SE_found_s_parts (z : SE) (v : (Nat → Int32)) : SE_found (SE_s_parts z v) = SE_found z := rfl
theorem SE_found_s_nextParts (z : SE) (v : (Nat → Int32)) : SE_found (SE_s_nextParts z v) = SE_found z := rfl
theorem SE_found_s_size (z : SE) (v : Int32) : SE_found (SE_s_size z v) = SE_found z := rfl
theorem SE_found_s_sets (z : SE) (v : Int32) : SE_found (SE_s_sets z v) = SE_found z := rfl
theorem SE_found_s_found (z : SE) (v : Int32) : SE_found (SE_s_found z v) = v := rfl
theorem SH_held_s_held (z : SH) (v : (Nat → Int32)) : SH_held (SH_s_held z v) = v := rfl
theorem SH_held_s_lengths (z : SH) (v : (Nat → Int32)) : SH_held (SH_s_lengths z v) = SH_held z := rfl
theorem SH_held_s_cells (z : SH) (v : (Nat → Int64)) : SH_held (SH_s_cells z v) = SH_held z := rfl
theorem SH_lengths_s_held (z : SH) (v : (Nat → Int32)) : SH_lengths (SH_s_held z v) = SH_lengths z := rfl
theorem SH_lengths_s_lengths (z : SH) (v : (Nat → Int32)) : SH_lengths (SH_s_lengths z v) = v := rfl
theorem SH_lengths_s_cells (z : SH) (v : (Nat → Int64)) : SH_lengths (SH_s_cells z v) = SH_lengths z := rfl
theorem SH_cells_s_held (z : SH) (v : (Nat → Int32)) : SH_cells (SH_s_held z v) = SH_cells z := rfl
theorem SH_cells_s_lengths (z : SH) (v : (Nat → Int32)) : SH_cells (SH_s_lengths z v) = SH_cells z := rfl
theorem SH_cells_s_cells (z : SH) (v : (Nat → Int64)) : SH_cells (SH_s_cells z v) = v := rfl
theorem TP_bytes_s_bytes (z : TP) (v : (Nat → Int32)) : TP_bytes (TP_s_bytes z v) = v := rfl
theorem TP_bytes_s_size (z : TP) (v : Int32) : TP_bytes (TP_s_size z v) = TP_bytes z := rfl
theorem TP_bytes_s_at (z : TP) (v : Int32) : TP_bytes (TP_s_at z v) = TP_bytes z := rfl
theorem TP_bytes_s_start (z : TP) (v : Int32) : TP_bytes (TP_s_start z v) = TP_bytes z := rfl
theorem TP_bytes_s_type (z : TP) (v : Int32) : TP_bytes (TP_s_type z v) = TP_bytes z := rfl
theorem TP_bytes_s_value (z : TP) (v : Int32) : TP_bytes (TP_s_value z v) = TP_bytes z := rfl
theorem TP_size_s_bytes (z : TP) (v : (Nat → Int32)) : TP_size (TP_s_bytes z v) = TP_size z := rfl
theorem TP_size_s_size (z : TP) (v : Int32) : TP_size (TP_s_size z v) = v := rfl
theorem TP_size_s_at (z : TP) (v : Int32) : TP_size (TP_s_at z v) = TP_size z := rfl
theorem TP_size_s_start (z : TP) (v : Int32) : TP_size (TP_s_start z v) = TP_size z := rfl
theorem TP_size_s_type (z : TP) (v : Int32) : TP_size (TP_s_type z v) = TP_size z := rfl
theorem TP_size_s_value (z : TP) (v : Int32) : TP_size (TP_s_value z v) = TP_size z := rfl
theorem TP_at_s_bytes (z : TP) (v : (Nat → Int32)) : TP_at (TP_s_bytes z v) = TP_at z := rfl
theorem TP_at_s_size (z : TP) (v : Int32) : TP_at (TP_s_size z v) = TP_at z := rfl
theorem TP_at_s_at (z : TP) (v : Int32) : TP_at (TP_s_at z v) = v := rfl
theorem TP_at_s_start (z : TP) (v : Int32) : TP_at (TP_s_start z v) = TP_at z := rfl
theorem TP_at_s_type (z : TP) (v : Int32) : TP_at (TP_s_type z v) = TP_at z := rfl
theorem TP_at_s_value (z : TP) (v : Int32) : TP_at (TP_s_value z v) = TP_at z := rfl
theorem TP_start_s_bytes (z : TP) (v : (Nat → Int32)) : TP_start (TP_s_bytes z v) = TP_start z := rfl
theorem TP_start_s_size (z : TP) (v : Int32) : TP_start (TP_s_size z v) = TP_start z := rfl
theorem TP_start_s_at (z : TP) (v : Int32) : TP_start (TP_s_at z v) = TP_start z := rfl
theorem TP_start_s_start (z : TP) (v : Int32) : TP_start (TP_s_start z v) = v := rfl
theorem TP_start_s_type (z : TP) (v : Int32) : TP_start (TP_s_type z v) = TP_start z := rfl
theorem TP_start_s_value (z : TP) (v : Int32) : TP_start (TP_s_value z v) = TP_start z := rfl
theorem TP_type_s_bytes (z : TP) (v : (Nat → Int32)) : TP_type (TP_s_bytes z v) = TP_type z := rfl
theorem TP_type_s_size (z : TP) (v : Int32) : TP_type (TP_s_size z v) = TP_type z := rfl
theorem TP_type_s_at (z : TP) (v : Int32) : TP_type (TP_s_at z v) = TP_type z := rfl
theorem TP_type_s_start (z : TP) (v : Int32) : TP_type (TP_s_start z v) = TP_type z := rfl
theorem TP_type_s_type (z : TP) (v : Int32) : TP_type (TP_s_type z v) = v := rfl
theorem TP_type_s_value (z : TP) (v : Int32) : TP_type (TP_s_value z v) = TP_type z := rfl
theorem TP_value_s_bytes (z : TP) (v : (Nat → Int32)) : TP_value (TP_s_bytes z v) = TP_value z := rfl
theorem TP_value_s_size (z : TP) (v : Int32) : TP_value (TP_s_size z v) = TP_value z := rfl
theorem TP_value_s_at (z : TP) (v : Int32) : TP_value (TP_s_at z v) = TP_value z := rfl
theorem TP_value_s_start (z : TP) (v : Int32) : TP_value (TP_s_start z v) = TP_value z := rfl
theorem TP_value_s_type (z : TP) (v : Int32) : TP_value (TP_s_type z v) = TP_value z := rfl
theorem TP_value_s_value (z : TP) (v : Int32) : TP_value (TP_s_value z v) = v := rfl
theorem RO_refusals_s_refusals (z : RO) (v : (Nat → Int32)) : RO_refusals (RO_s_refusals z v) = v := rfl
theorem RO_refusals_s_imageStands (z : RO) (v : Int32) : RO_refusals (RO_s_imageStands z v) = RO_refusals z := rfl
theorem RO_imageStands_s_refusals (z : RO) (v : (Nat → Int32)) : RO_imageStands (RO_s_refusals z v) = RO_imageStands z := rfl
theorem RO_imageStands_s_imageStands (z : RO) (v : Int32) : RO_imageStands (RO_s_imageStands z v) = v := rfl
theorem RM_shelf_s_shelf (z : RM) (v : (Nat → Int32)) : RM_shelf (RM_s_shelf z v) = v := rfl
theorem RM_shelf_s_rowSort (z : RM) (v : (Nat → Int32)) : RM_shelf (RM_s_rowSort z v) = RM_shelf z := rfl
theorem RM_shelf_s_rowSize (z : RM) (v : (Nat → Int32)) : RM_shelf (RM_s_rowSize z v) = RM_shelf z := rfl
theorem RM_shelf_s_rows (z : RM) (v : (Nat → Nat → Int64)) : RM_shelf (RM_s_rows z v) = RM_shelf z := rfl
theorem RM_shelf_s_moved1 (z : RM) (v : (Nat → Int64)) : RM_shelf (RM_s_moved1 z v) = RM_shelf z := rfl
theorem RM_shelf_s_shown (z : RM) (v : (Nat → Int32)) : RM_shelf (RM_s_shown z v) = RM_shelf z := rfl
theorem RM_shelf_s_tape (z : RM) (v : (Nat → Int32)) : RM_shelf (RM_s_tape z v) = RM_shelf z := rfl
theorem RM_shelf_s_tapeSize (z : RM) (v : Int32) : RM_shelf (RM_s_tapeSize z v) = RM_shelf z := rfl
theorem RM_shelf_s_refused (z : RM) (v : (Nat → Int32)) : RM_shelf (RM_s_refused z v) = RM_shelf z := rfl
theorem RM_shelf_s_bars (z : RM) (v : Int32) : RM_shelf (RM_s_bars z v) = RM_shelf z := rfl
theorem RM_shelf_s_kind (z : RM) (v : (Nat → Int32)) : RM_shelf (RM_s_kind z v) = RM_shelf z := rfl
theorem RM_shelf_s_size (z : RM) (v : (Nat → Int32)) : RM_shelf (RM_s_size z v) = RM_shelf z := rfl
theorem RM_shelf_s_on (z : RM) (v : (Nat → Int32)) : RM_shelf (RM_s_on z v) = RM_shelf z := rfl
theorem RM_shelf_s_stuck (z : RM) (v : (Nat → Int32)) : RM_shelf (RM_s_stuck z v) = RM_shelf z := rfl
theorem RM_shelf_s_must (z : RM) (v : (Nat → Nat → Int32)) : RM_shelf (RM_s_must z v) = RM_shelf z := rfl
theorem RM_shelf_s_not (z : RM) (v : (Nat → Nat → Int32)) : RM_shelf (RM_s_not z v) = RM_shelf z := rfl
theorem RM_shelf_s_minutes (z : RM) (v : (Nat → Int32)) : RM_shelf (RM_s_minutes z v) = RM_shelf z := rfl
theorem RM_shelf_s_movedAll (z : RM) (v : Int32) : RM_shelf (RM_s_movedAll z v) = RM_shelf z := rfl
theorem RM_shelf_s_seed (z : RM) (v : Int32) : RM_shelf (RM_s_seed z v) = RM_shelf z := rfl
theorem RM_shelf_s_at (z : RM) (v : Int32) : RM_shelf (RM_s_at z v) = RM_shelf z := rfl
theorem RM_shelf_s_token (z : RM) (v : Int32) : RM_shelf (RM_s_token z v) = RM_shelf z := rfl
theorem RM_shelf_s_from (z : RM) (v : Int32) : RM_shelf (RM_s_from z v) = RM_shelf z := rfl
theorem RM_shelf_s_figures (z : RM) (v : Int32) : RM_shelf (RM_s_figures z v) = RM_shelf z := rfl
theorem RM_shelf_s_fault (z : RM) (v : Int32) : RM_shelf (RM_s_fault z v) = RM_shelf z := rfl
theorem RM_shelf_s_told (z : RM) (v : (Nat → Int32)) : RM_shelf (RM_s_told z v) = RM_shelf z := rfl
theorem RM_shelf_s_statements (z : RM) (v : Int32) : RM_shelf (RM_s_statements z v) = RM_shelf z := rfl
theorem RM_shelf_s_far (z : RM) (v : (Nat → Int32)) : RM_shelf (RM_s_far z v) = RM_shelf z := rfl
theorem RM_shelf_s_queue (z : RM) (v : (Nat → Int32)) : RM_shelf (RM_s_queue z v) = RM_shelf z := rfl
theorem RM_shelf_s_queued (z : RM) (v : Int32) : RM_shelf (RM_s_queued z v) = RM_shelf z := rfl
theorem RM_shelf_s_parts1 (z : RM) (v : (Nat → Int32)) : RM_shelf (RM_s_parts1 z v) = RM_shelf z := rfl
theorem RM_shelf_s_parts2 (z : RM) (v : (Nat → Int32)) : RM_shelf (RM_s_parts2 z v) = RM_shelf z := rfl
theorem RM_shelf_s_picturesSum (z : RM) (v : Int32) : RM_shelf (RM_s_picturesSum z v) = RM_shelf z := rfl
theorem RM_shelf_s_behindAll (z : RM) (v : Int32) : RM_shelf (RM_s_behindAll z v) = RM_shelf z := rfl
theorem RM_shelf_s_pl (z : RM) (v : Nat) : RM_shelf (RM_s_pl z v) = RM_shelf z := rfl
theorem RM_rowSort_s_shelf (z : RM) (v : (Nat → Int32)) : RM_rowSort (RM_s_shelf z v) = RM_rowSort z := rfl
theorem RM_rowSort_s_rowSort (z : RM) (v : (Nat → Int32)) : RM_rowSort (RM_s_rowSort z v) = v := rfl
theorem RM_rowSort_s_rowSize (z : RM) (v : (Nat → Int32)) : RM_rowSort (RM_s_rowSize z v) = RM_rowSort z := rfl
theorem RM_rowSort_s_rows (z : RM) (v : (Nat → Nat → Int64)) : RM_rowSort (RM_s_rows z v) = RM_rowSort z := rfl
theorem RM_rowSort_s_moved1 (z : RM) (v : (Nat → Int64)) : RM_rowSort (RM_s_moved1 z v) = RM_rowSort z := rfl
theorem RM_rowSort_s_shown (z : RM) (v : (Nat → Int32)) : RM_rowSort (RM_s_shown z v) = RM_rowSort z := rfl
theorem RM_rowSort_s_tape (z : RM) (v : (Nat → Int32)) : RM_rowSort (RM_s_tape z v) = RM_rowSort z := rfl
theorem RM_rowSort_s_tapeSize (z : RM) (v : Int32) : RM_rowSort (RM_s_tapeSize z v) = RM_rowSort z := rfl
theorem RM_rowSort_s_refused (z : RM) (v : (Nat → Int32)) : RM_rowSort (RM_s_refused z v) = RM_rowSort z := rfl
theorem RM_rowSort_s_bars (z : RM) (v : Int32) : RM_rowSort (RM_s_bars z v) = RM_rowSort z := rfl
theorem RM_rowSort_s_kind (z : RM) (v : (Nat → Int32)) : RM_rowSort (RM_s_kind z v) = RM_rowSort z := rfl
theorem RM_rowSort_s_size (z : RM) (v : (Nat → Int32)) : RM_rowSort (RM_s_size z v) = RM_rowSort z := rfl
theorem RM_rowSort_s_on (z : RM) (v : (Nat → Int32)) : RM_rowSort (RM_s_on z v) = RM_rowSort z := rfl
theorem RM_rowSort_s_stuck (z : RM) (v : (Nat → Int32)) : RM_rowSort (RM_s_stuck z v) = RM_rowSort z := rfl
theorem RM_rowSort_s_must (z : RM) (v : (Nat → Nat → Int32)) : RM_rowSort (RM_s_must z v) = RM_rowSort z := rfl
theorem RM_rowSort_s_not (z : RM) (v : (Nat → Nat → Int32)) : RM_rowSort (RM_s_not z v) = RM_rowSort z := rfl
theorem RM_rowSort_s_minutes (z : RM) (v : (Nat → Int32)) : RM_rowSort (RM_s_minutes z v) = RM_rowSort z := rfl
theorem RM_rowSort_s_movedAll (z : RM) (v : Int32) : RM_rowSort (RM_s_movedAll z v) = RM_rowSort z := rfl
theorem RM_rowSort_s_seed (z : RM) (v : Int32) : RM_rowSort (RM_s_seed z v) = RM_rowSort z := rfl
theorem RM_rowSort_s_at (z : RM) (v : Int32) : RM_rowSort (RM_s_at z v) = RM_rowSort z := rfl
theorem RM_rowSort_s_token (z : RM) (v : Int32) : RM_rowSort (RM_s_token z v) = RM_rowSort z := rfl
theorem RM_rowSort_s_from (z : RM) (v : Int32) : RM_rowSort (RM_s_from z v) = RM_rowSort z := rfl
theorem RM_rowSort_s_figures (z : RM) (v : Int32) : RM_rowSort (RM_s_figures z v) = RM_rowSort z := rfl
theorem RM_rowSort_s_fault (z : RM) (v : Int32) : RM_rowSort (RM_s_fault z v) = RM_rowSort z := rfl
theorem RM_rowSort_s_told (z : RM) (v : (Nat → Int32)) : RM_rowSort (RM_s_told z v) = RM_rowSort z := rfl
theorem RM_rowSort_s_statements (z : RM) (v : Int32) : RM_rowSort (RM_s_statements z v) = RM_rowSort z := rfl
theorem RM_rowSort_s_far (z : RM) (v : (Nat → Int32)) : RM_rowSort (RM_s_far z v) = RM_rowSort z := rfl
theorem RM_rowSort_s_queue (z : RM) (v : (Nat → Int32)) : RM_rowSort (RM_s_queue z v) = RM_rowSort z := rfl
theorem RM_rowSort_s_queued (z : RM) (v : Int32) : RM_rowSort (RM_s_queued z v) = RM_rowSort z := rfl
theorem RM_rowSort_s_parts1 (z : RM) (v : (Nat → Int32)) : RM_rowSort (RM_s_parts1 z v) = RM_rowSort z := rfl
theorem RM_rowSort_s_parts2 (z : RM) (v : (Nat → Int32)) : RM_rowSort (RM_s_parts2 z v) = RM_rowSort z := rfl
theorem RM_rowSort_s_picturesSum (z : RM) (v : Int32) : RM_rowSort (RM_s_picturesSum z v) = RM_rowSort z := rfl
theorem RM_rowSort_s_behindAll (z : RM) (v : Int32) : RM_rowSort (RM_s_behindAll z v) = RM_rowSort z := rfl
theorem RM_rowSort_s_pl (z : RM) (v : Nat) : RM_rowSort (RM_s_pl z v) = RM_rowSort z := rfl
theorem RM_rowSize_s_shelf (z : RM) (v : (Nat → Int32)) : RM_rowSize (RM_s_shelf z v) = RM_rowSize z := rfl
theorem RM_rowSize_s_rowSort (z : RM) (v : (Nat → Int32)) : RM_rowSize (RM_s_rowSort z v) = RM_rowSize z := rfl
theorem RM_rowSize_s_rowSize (z : RM) (v : (Nat → Int32)) : RM_rowSize (RM_s_rowSize z v) = v := rfl
theorem RM_rowSize_s_rows (z : RM) (v : (Nat → Nat → Int64)) : RM_rowSize (RM_s_rows z v) = RM_rowSize z := rfl
theorem RM_rowSize_s_moved1 (z : RM) (v : (Nat → Int64)) : RM_rowSize (RM_s_moved1 z v) = RM_rowSize z := rfl
theorem RM_rowSize_s_shown (z : RM) (v : (Nat → Int32)) : RM_rowSize (RM_s_shown z v) = RM_rowSize z := rfl
theorem RM_rowSize_s_tape (z : RM) (v : (Nat → Int32)) : RM_rowSize (RM_s_tape z v) = RM_rowSize z := rfl
theorem RM_rowSize_s_tapeSize (z : RM) (v : Int32) : RM_rowSize (RM_s_tapeSize z v) = RM_rowSize z := rfl
theorem RM_rowSize_s_refused (z : RM) (v : (Nat → Int32)) : RM_rowSize (RM_s_refused z v) = RM_rowSize z := rfl
theorem RM_rowSize_s_bars (z : RM) (v : Int32) : RM_rowSize (RM_s_bars z v) = RM_rowSize z := rfl
theorem RM_rowSize_s_kind (z : RM) (v : (Nat → Int32)) : RM_rowSize (RM_s_kind z v) = RM_rowSize z := rfl
theorem RM_rowSize_s_size (z : RM) (v : (Nat → Int32)) : RM_rowSize (RM_s_size z v) = RM_rowSize z := rfl
theorem RM_rowSize_s_on (z : RM) (v : (Nat → Int32)) : RM_rowSize (RM_s_on z v) = RM_rowSize z := rfl
theorem RM_rowSize_s_stuck (z : RM) (v : (Nat → Int32)) : RM_rowSize (RM_s_stuck z v) = RM_rowSize z := rfl
theorem RM_rowSize_s_must (z : RM) (v : (Nat → Nat → Int32)) : RM_rowSize (RM_s_must z v) = RM_rowSize z := rfl
theorem RM_rowSize_s_not (z : RM) (v : (Nat → Nat → Int32)) : RM_rowSize (RM_s_not z v) = RM_rowSize z := rfl
theorem RM_rowSize_s_minutes (z : RM) (v : (Nat → Int32)) : RM_rowSize (RM_s_minutes z v) = RM_rowSize z := rfl
theorem RM_rowSize_s_movedAll (z : RM) (v : Int32) : RM_rowSize (RM_s_movedAll z v) = RM_rowSize z := rfl
theorem RM_rowSize_s_seed (z : RM) (v : Int32) : RM_rowSize (RM_s_seed z v) = RM_rowSize z := rfl
theorem RM_rowSize_s_at (z : RM) (v : Int32) : RM_rowSize (RM_s_at z v) = RM_rowSize z := rfl
theorem RM_rowSize_s_token (z : RM) (v : Int32) : RM_rowSize (RM_s_token z v) = RM_rowSize z := rfl
theorem RM_rowSize_s_from (z : RM) (v : Int32) : RM_rowSize (RM_s_from z v) = RM_rowSize z := rfl
theorem RM_rowSize_s_figures (z : RM) (v : Int32) : RM_rowSize (RM_s_figures z v) = RM_rowSize z := rfl
theorem RM_rowSize_s_fault (z : RM) (v : Int32) : RM_rowSize (RM_s_fault z v) = RM_rowSize z := rfl
theorem RM_rowSize_s_told (z : RM) (v : (Nat → Int32)) : RM_rowSize (RM_s_told z v) = RM_rowSize z := rfl
theorem RM_rowSize_s_statements (z : RM) (v : Int32) : RM_rowSize (RM_s_statements z v) = RM_rowSize z := rfl
theorem RM_rowSize_s_far (z : RM) (v : (Nat → Int32)) : RM_rowSize (RM_s_far z v) = RM_rowSize z := rfl
theorem RM_rowSize_s_queue (z : RM) (v : (Nat → Int32)) : RM_rowSize (RM_s_queue z v) = RM_rowSize z := rfl
theorem RM_rowSize_s_queued (z : RM) (v : Int32) : RM_rowSize (RM_s_queued z v) = RM_rowSize z := rfl
theorem RM_rowSize_s_parts1 (z : RM) (v : (Nat → Int32)) : RM_rowSize (RM_s_parts1 z v) = RM_rowSize z := rfl
theorem RM_rowSize_s_parts2 (z : RM) (v : (Nat → Int32)) : RM_rowSize (RM_s_parts2 z v) = RM_rowSize z := rfl
theorem RM_rowSize_s_picturesSum (z : RM) (v : Int32) : RM_rowSize (RM_s_picturesSum z v) = RM_rowSize z := rfl
theorem RM_rowSize_s_behindAll (z : RM) (v : Int32) : RM_rowSize (RM_s_behindAll z v) = RM_rowSize z := rfl
theorem RM_rowSize_s_pl (z : RM) (v : Nat) : RM_rowSize (RM_s_pl z v) = RM_rowSize z := rfl
theorem RM_rows_s_shelf (z : RM) (v : (Nat → Int32)) : RM_rows (RM_s_shelf z v) = RM_rows z := rfl
theorem RM_rows_s_rowSort (z : RM) (v : (Nat → Int32)) : RM_rows (RM_s_rowSort z v) = RM_rows z := rfl
theorem RM_rows_s_rowSize (z : RM) (v : (Nat → Int32)) : RM_rows (RM_s_rowSize z v) = RM_rows z := rfl
theorem RM_rows_s_rows (z : RM) (v : (Nat → Nat → Int64)) : RM_rows (RM_s_rows z v) = v := rfl
theorem RM_rows_s_moved1 (z : RM) (v : (Nat → Int64)) : RM_rows (RM_s_moved1 z v) = RM_rows z := rfl
theorem RM_rows_s_shown (z : RM) (v : (Nat → Int32)) : RM_rows (RM_s_shown z v) = RM_rows z := rfl
theorem RM_rows_s_tape (z : RM) (v : (Nat → Int32)) : RM_rows (RM_s_tape z v) = RM_rows z := rfl
theorem RM_rows_s_tapeSize (z : RM) (v : Int32) : RM_rows (RM_s_tapeSize z v) = RM_rows z := rfl
theorem RM_rows_s_refused (z : RM) (v : (Nat → Int32)) : RM_rows (RM_s_refused z v) = RM_rows z := rfl
theorem RM_rows_s_bars (z : RM) (v : Int32) : RM_rows (RM_s_bars z v) = RM_rows z := rfl
theorem RM_rows_s_kind (z : RM) (v : (Nat → Int32)) : RM_rows (RM_s_kind z v) = RM_rows z := rfl
theorem RM_rows_s_size (z : RM) (v : (Nat → Int32)) : RM_rows (RM_s_size z v) = RM_rows z := rfl
theorem RM_rows_s_on (z : RM) (v : (Nat → Int32)) : RM_rows (RM_s_on z v) = RM_rows z := rfl
theorem RM_rows_s_stuck (z : RM) (v : (Nat → Int32)) : RM_rows (RM_s_stuck z v) = RM_rows z := rfl
theorem RM_rows_s_must (z : RM) (v : (Nat → Nat → Int32)) : RM_rows (RM_s_must z v) = RM_rows z := rfl
theorem RM_rows_s_not (z : RM) (v : (Nat → Nat → Int32)) : RM_rows (RM_s_not z v) = RM_rows z := rfl
theorem RM_rows_s_minutes (z : RM) (v : (Nat → Int32)) : RM_rows (RM_s_minutes z v) = RM_rows z := rfl
theorem RM_rows_s_movedAll (z : RM) (v : Int32) : RM_rows (RM_s_movedAll z v) = RM_rows z := rfl
theorem RM_rows_s_seed (z : RM) (v : Int32) : RM_rows (RM_s_seed z v) = RM_rows z := rfl
theorem RM_rows_s_at (z : RM) (v : Int32) : RM_rows (RM_s_at z v) = RM_rows z := rfl
theorem RM_rows_s_token (z : RM) (v : Int32) : RM_rows (RM_s_token z v) = RM_rows z := rfl
theorem RM_rows_s_from (z : RM) (v : Int32) : RM_rows (RM_s_from z v) = RM_rows z := rfl
theorem RM_rows_s_figures (z : RM) (v : Int32) : RM_rows (RM_s_figures z v) = RM_rows z := rfl
theorem RM_rows_s_fault (z : RM) (v : Int32) : RM_rows (RM_s_fault z v) = RM_rows z := rfl
theorem RM_rows_s_told (z : RM) (v : (Nat → Int32)) : RM_rows (RM_s_told z v) = RM_rows z := rfl
theorem RM_rows_s_statements (z : RM) (v : Int32) : RM_rows (RM_s_statements z v) = RM_rows z := rfl
theorem RM_rows_s_far (z : RM) (v : (Nat → Int32)) : RM_rows (RM_s_far z v) = RM_rows z := rfl
theorem RM_rows_s_queue (z : RM) (v : (Nat → Int32)) : RM_rows (RM_s_queue z v) = RM_rows z := rfl
theorem RM_rows_s_queued (z : RM) (v : Int32) : RM_rows (RM_s_queued z v) = RM_rows z := rfl
theorem RM_rows_s_parts1 (z : RM) (v : (Nat → Int32)) : RM_rows (RM_s_parts1 z v) = RM_rows z := rfl
theorem RM_rows_s_parts2 (z : RM) (v : (Nat → Int32)) : RM_rows (RM_s_parts2 z v) = RM_rows z := rfl
theorem RM_rows_s_picturesSum (z : RM) (v : Int32) : RM_rows (RM_s_picturesSum z v) = RM_rows z := rfl
theorem RM_rows_s_behindAll (z : RM) (v : Int32) : RM_rows (RM_s_behindAll z v) = RM_rows z := rfl
theorem RM_rows_s_pl (z : RM) (v : Nat) : RM_rows (RM_s_pl z v) = RM_rows z := rfl
theorem RM_moved1_s_shelf (z : RM) (v : (Nat → Int32)) : RM_moved1 (RM_s_shelf z v) = RM_moved1 z := rfl
theorem RM_moved1_s_rowSort (z : RM) (v : (Nat → Int32)) : RM_moved1 (RM_s_rowSort z v) = RM_moved1 z := rfl
theorem RM_moved1_s_rowSize (z : RM) (v : (Nat → Int32)) : RM_moved1 (RM_s_rowSize z v) = RM_moved1 z := rfl
theorem RM_moved1_s_rows (z : RM) (v : (Nat → Nat → Int64)) : RM_moved1 (RM_s_rows z v) = RM_moved1 z := rfl
theorem RM_moved1_s_moved1 (z : RM) (v : (Nat → Int64)) : RM_moved1 (RM_s_moved1 z v) = v := rfl
theorem RM_moved1_s_shown (z : RM) (v : (Nat → Int32)) : RM_moved1 (RM_s_shown z v) = RM_moved1 z := rfl
theorem RM_moved1_s_tape (z : RM) (v : (Nat → Int32)) : RM_moved1 (RM_s_tape z v) = RM_moved1 z := rfl
theorem RM_moved1_s_tapeSize (z : RM) (v : Int32) : RM_moved1 (RM_s_tapeSize z v) = RM_moved1 z := rfl
theorem RM_moved1_s_refused (z : RM) (v : (Nat → Int32)) : RM_moved1 (RM_s_refused z v) = RM_moved1 z := rfl
theorem RM_moved1_s_bars (z : RM) (v : Int32) : RM_moved1 (RM_s_bars z v) = RM_moved1 z := rfl
theorem RM_moved1_s_kind (z : RM) (v : (Nat → Int32)) : RM_moved1 (RM_s_kind z v) = RM_moved1 z := rfl
theorem RM_moved1_s_size (z : RM) (v : (Nat → Int32)) : RM_moved1 (RM_s_size z v) = RM_moved1 z := rfl
theorem RM_moved1_s_on (z : RM) (v : (Nat → Int32)) : RM_moved1 (RM_s_on z v) = RM_moved1 z := rfl
theorem RM_moved1_s_stuck (z : RM) (v : (Nat → Int32)) : RM_moved1 (RM_s_stuck z v) = RM_moved1 z := rfl
theorem RM_moved1_s_must (z : RM) (v : (Nat → Nat → Int32)) : RM_moved1 (RM_s_must z v) = RM_moved1 z := rfl
theorem RM_moved1_s_not (z : RM) (v : (Nat → Nat → Int32)) : RM_moved1 (RM_s_not z v) = RM_moved1 z := rfl
theorem RM_moved1_s_minutes (z : RM) (v : (Nat → Int32)) : RM_moved1 (RM_s_minutes z v) = RM_moved1 z := rfl
theorem RM_moved1_s_movedAll (z : RM) (v : Int32) : RM_moved1 (RM_s_movedAll z v) = RM_moved1 z := rfl
theorem RM_moved1_s_seed (z : RM) (v : Int32) : RM_moved1 (RM_s_seed z v) = RM_moved1 z := rfl
theorem RM_moved1_s_at (z : RM) (v : Int32) : RM_moved1 (RM_s_at z v) = RM_moved1 z := rfl
theorem RM_moved1_s_token (z : RM) (v : Int32) : RM_moved1 (RM_s_token z v) = RM_moved1 z := rfl
theorem RM_moved1_s_from (z : RM) (v : Int32) : RM_moved1 (RM_s_from z v) = RM_moved1 z := rfl
theorem RM_moved1_s_figures (z : RM) (v : Int32) : RM_moved1 (RM_s_figures z v) = RM_moved1 z := rfl
theorem RM_moved1_s_fault (z : RM) (v : Int32) : RM_moved1 (RM_s_fault z v) = RM_moved1 z := rfl
theorem RM_moved1_s_told (z : RM) (v : (Nat → Int32)) : RM_moved1 (RM_s_told z v) = RM_moved1 z := rfl
theorem RM_moved1_s_statements (z : RM) (v : Int32) : RM_moved1 (RM_s_statements z v) = RM_moved1 z := rfl
theorem RM_moved1_s_far (z : RM) (v : (Nat → Int32)) : RM_moved1 (RM_s_far z v) = RM_moved1 z := rfl
theorem RM_moved1_s_queue (z : RM) (v : (Nat → Int32)) : RM_moved1 (RM_s_queue z v) = RM_moved1 z := rfl
theorem RM_moved1_s_queued (z : RM) (v : Int32) : RM_moved1 (RM_s_queued z v) = RM_moved1 z := rfl
theorem RM_moved1_s_parts1 (z : RM) (v : (Nat → Int32)) : RM_moved1 (RM_s_parts1 z v) = RM_moved1 z := rfl
theorem RM_moved1_s_parts2 (z : RM) (v : (Nat → Int32)) : RM_moved1 (RM_s_parts2 z v) = RM_moved1 z := rfl
theorem RM_moved1_s_picturesSum (z : RM) (v : Int32) : RM_moved1 (RM_s_picturesSum z v) = RM_moved1 z := rfl
theorem RM_moved1_s_behindAll (z : RM) (v : Int32) : RM_moved1 (RM_s_behindAll z v) = RM_moved1 z := rfl
theorem RM_moved1_s_pl (z : RM) (v : Nat) : RM_moved1 (RM_s_pl z v) = RM_moved1 z := rfl
theorem RM_shown_s_shelf (z : RM) (v : (Nat → Int32)) : RM_shown (RM_s_shelf z v) = RM_shown z := rfl
theorem RM_shown_s_rowSort (z : RM) (v : (Nat → Int32)) : RM_shown (RM_s_rowSort z v) = RM_shown z := rfl
theorem RM_shown_s_rowSize (z : RM) (v : (Nat → Int32)) : RM_shown (RM_s_rowSize z v) = RM_shown z := rfl
theorem RM_shown_s_rows (z : RM) (v : (Nat → Nat → Int64)) : RM_shown (RM_s_rows z v) = RM_shown z := rfl
theorem RM_shown_s_moved1 (z : RM) (v : (Nat → Int64)) : RM_shown (RM_s_moved1 z v) = RM_shown z := rfl
theorem RM_shown_s_shown (z : RM) (v : (Nat → Int32)) : RM_shown (RM_s_shown z v) = v := rfl
theorem RM_shown_s_tape (z : RM) (v : (Nat → Int32)) : RM_shown (RM_s_tape z v) = RM_shown z := rfl
theorem RM_shown_s_tapeSize (z : RM) (v : Int32) : RM_shown (RM_s_tapeSize z v) = RM_shown z := rfl
theorem RM_shown_s_refused (z : RM) (v : (Nat → Int32)) : RM_shown (RM_s_refused z v) = RM_shown z := rfl
theorem RM_shown_s_bars (z : RM) (v : Int32) : RM_shown (RM_s_bars z v) = RM_shown z := rfl
theorem RM_shown_s_kind (z : RM) (v : (Nat → Int32)) : RM_shown (RM_s_kind z v) = RM_shown z := rfl
theorem RM_shown_s_size (z : RM) (v : (Nat → Int32)) : RM_shown (RM_s_size z v) = RM_shown z := rfl
theorem RM_shown_s_on (z : RM) (v : (Nat → Int32)) : RM_shown (RM_s_on z v) = RM_shown z := rfl
theorem RM_shown_s_stuck (z : RM) (v : (Nat → Int32)) : RM_shown (RM_s_stuck z v) = RM_shown z := rfl
theorem RM_shown_s_must (z : RM) (v : (Nat → Nat → Int32)) : RM_shown (RM_s_must z v) = RM_shown z := rfl
theorem RM_shown_s_not (z : RM) (v : (Nat → Nat → Int32)) : RM_shown (RM_s_not z v) = RM_shown z := rfl
theorem RM_shown_s_minutes (z : RM) (v : (Nat → Int32)) : RM_shown (RM_s_minutes z v) = RM_shown z := rfl
theorem RM_shown_s_movedAll (z : RM) (v : Int32) : RM_shown (RM_s_movedAll z v) = RM_shown z := rfl
theorem RM_shown_s_seed (z : RM) (v : Int32) : RM_shown (RM_s_seed z v) = RM_shown z := rfl
theorem RM_shown_s_at (z : RM) (v : Int32) : RM_shown (RM_s_at z v) = RM_shown z := rfl
theorem RM_shown_s_token (z : RM) (v : Int32) : RM_shown (RM_s_token z v) = RM_shown z := rfl
theorem RM_shown_s_from (z : RM) (v : Int32) : RM_shown (RM_s_from z v) = RM_shown z := rfl
theorem RM_shown_s_figures (z : RM) (v : Int32) : RM_shown (RM_s_figures z v) = RM_shown z := rfl
theorem RM_shown_s_fault (z : RM) (v : Int32) : RM_shown (RM_s_fault z v) = RM_shown z := rfl
theorem RM_shown_s_told (z : RM) (v : (Nat → Int32)) : RM_shown (RM_s_told z v) = RM_shown z := rfl
theorem RM_shown_s_statements (z : RM) (v : Int32) : RM_shown (RM_s_statements z v) = RM_shown z := rfl
theorem RM_shown_s_far (z : RM) (v : (Nat → Int32)) : RM_shown (RM_s_far z v) = RM_shown z := rfl
theorem RM_shown_s_queue (z : RM) (v : (Nat → Int32)) : RM_shown (RM_s_queue z v) = RM_shown z := rfl
theorem RM_shown_s_queued (z : RM) (v : Int32) : RM_shown (RM_s_queued z v) = RM_shown z := rfl
theorem RM_shown_s_parts1 (z : RM) (v : (Nat → Int32)) : RM_shown (RM_s_parts1 z v) = RM_shown z := rfl
theorem RM_shown_s_parts2 (z : RM) (v : (Nat → Int32)) : RM_shown (RM_s_parts2 z v) = RM_shown z := rfl
theorem RM_shown_s_picturesSum (z : RM) (v : Int32) : RM_shown (RM_s_picturesSum z v) = RM_shown z := rfl
theorem RM_shown_s_behindAll (z : RM) (v : Int32) : RM_shown (RM_s_behindAll z v) = RM_shown z := rfl
theorem RM_shown_s_pl (z : RM) (v : Nat) : RM_shown (RM_s_pl z v) = RM_shown z := rfl
theorem RM_tape_s_shelf (z : RM) (v : (Nat → Int32)) : RM_tape (RM_s_shelf z v) = RM_tape z := rfl
theorem RM_tape_s_rowSort (z : RM) (v : (Nat → Int32)) : RM_tape (RM_s_rowSort z v) = RM_tape z := rfl
theorem RM_tape_s_rowSize (z : RM) (v : (Nat → Int32)) : RM_tape (RM_s_rowSize z v) = RM_tape z := rfl
theorem RM_tape_s_rows (z : RM) (v : (Nat → Nat → Int64)) : RM_tape (RM_s_rows z v) = RM_tape z := rfl
theorem RM_tape_s_moved1 (z : RM) (v : (Nat → Int64)) : RM_tape (RM_s_moved1 z v) = RM_tape z := rfl
theorem RM_tape_s_shown (z : RM) (v : (Nat → Int32)) : RM_tape (RM_s_shown z v) = RM_tape z := rfl
theorem RM_tape_s_tape (z : RM) (v : (Nat → Int32)) : RM_tape (RM_s_tape z v) = v := rfl
theorem RM_tape_s_tapeSize (z : RM) (v : Int32) : RM_tape (RM_s_tapeSize z v) = RM_tape z := rfl
theorem RM_tape_s_refused (z : RM) (v : (Nat → Int32)) : RM_tape (RM_s_refused z v) = RM_tape z := rfl
theorem RM_tape_s_bars (z : RM) (v : Int32) : RM_tape (RM_s_bars z v) = RM_tape z := rfl
theorem RM_tape_s_kind (z : RM) (v : (Nat → Int32)) : RM_tape (RM_s_kind z v) = RM_tape z := rfl
theorem RM_tape_s_size (z : RM) (v : (Nat → Int32)) : RM_tape (RM_s_size z v) = RM_tape z := rfl
theorem RM_tape_s_on (z : RM) (v : (Nat → Int32)) : RM_tape (RM_s_on z v) = RM_tape z := rfl
theorem RM_tape_s_stuck (z : RM) (v : (Nat → Int32)) : RM_tape (RM_s_stuck z v) = RM_tape z := rfl
theorem RM_tape_s_must (z : RM) (v : (Nat → Nat → Int32)) : RM_tape (RM_s_must z v) = RM_tape z := rfl
theorem RM_tape_s_not (z : RM) (v : (Nat → Nat → Int32)) : RM_tape (RM_s_not z v) = RM_tape z := rfl
theorem RM_tape_s_minutes (z : RM) (v : (Nat → Int32)) : RM_tape (RM_s_minutes z v) = RM_tape z := rfl
theorem RM_tape_s_movedAll (z : RM) (v : Int32) : RM_tape (RM_s_movedAll z v) = RM_tape z := rfl
theorem RM_tape_s_seed (z : RM) (v : Int32) : RM_tape (RM_s_seed z v) = RM_tape z := rfl
theorem RM_tape_s_at (z : RM) (v : Int32) : RM_tape (RM_s_at z v) = RM_tape z := rfl
theorem RM_tape_s_token (z : RM) (v : Int32) : RM_tape (RM_s_token z v) = RM_tape z := rfl
theorem RM_tape_s_from (z : RM) (v : Int32) : RM_tape (RM_s_from z v) = RM_tape z := rfl
theorem RM_tape_s_figures (z : RM) (v : Int32) : RM_tape (RM_s_figures z v) = RM_tape z := rfl
theorem RM_tape_s_fault (z : RM) (v : Int32) : RM_tape (RM_s_fault z v) = RM_tape z := rfl
theorem RM_tape_s_told (z : RM) (v : (Nat → Int32)) : RM_tape (RM_s_told z v) = RM_tape z := rfl
theorem RM_tape_s_statements (z : RM) (v : Int32) : RM_tape (RM_s_statements z v) = RM_tape z := rfl
theorem RM_tape_s_far (z : RM) (v : (Nat → Int32)) : RM_tape (RM_s_far z v) = RM_tape z := rfl
theorem RM_tape_s_queue (z : RM) (v : (Nat → Int32)) : RM_tape (RM_s_queue z v) = RM_tape z := rfl
theorem RM_tape_s_queued (z : RM) (v : Int32) : RM_tape (RM_s_queued z v) = RM_tape z := rfl
theorem RM_tape_s_parts1 (z : RM) (v : (Nat → Int32)) : RM_tape (RM_s_parts1 z v) = RM_tape z := rfl
theorem RM_tape_s_parts2 (z : RM) (v : (Nat → Int32)) : RM_tape (RM_s_parts2 z v) = RM_tape z := rfl
theorem RM_tape_s_picturesSum (z : RM) (v : Int32) : RM_tape (RM_s_picturesSum z v) = RM_tape z := rfl
theorem RM_tape_s_behindAll (z : RM) (v : Int32) : RM_tape (RM_s_behindAll z v) = RM_tape z := rfl
theorem RM_tape_s_pl (z : RM) (v : Nat) : RM_tape (RM_s_pl z v) = RM_tape z := rfl
theorem RM_tapeSize_s_shelf (z : RM) (v : (Nat → Int32)) : RM_tapeSize (RM_s_shelf z v) = RM_tapeSize z := rfl
theorem RM_tapeSize_s_rowSort (z : RM) (v : (Nat → Int32)) : RM_tapeSize (RM_s_rowSort z v) = RM_tapeSize z := rfl
theorem RM_tapeSize_s_rowSize (z : RM) (v : (Nat → Int32)) : RM_tapeSize (RM_s_rowSize z v) = RM_tapeSize z := rfl
theorem RM_tapeSize_s_rows (z : RM) (v : (Nat → Nat → Int64)) : RM_tapeSize (RM_s_rows z v) = RM_tapeSize z := rfl
theorem RM_tapeSize_s_moved1 (z : RM) (v : (Nat → Int64)) : RM_tapeSize (RM_s_moved1 z v) = RM_tapeSize z := rfl
theorem RM_tapeSize_s_shown (z : RM) (v : (Nat → Int32)) : RM_tapeSize (RM_s_shown z v) = RM_tapeSize z := rfl
theorem RM_tapeSize_s_tape (z : RM) (v : (Nat → Int32)) : RM_tapeSize (RM_s_tape z v) = RM_tapeSize z := rfl
theorem RM_tapeSize_s_tapeSize (z : RM) (v : Int32) : RM_tapeSize (RM_s_tapeSize z v) = v := rfl
theorem RM_tapeSize_s_refused (z : RM) (v : (Nat → Int32)) : RM_tapeSize (RM_s_refused z v) = RM_tapeSize z := rfl
theorem RM_tapeSize_s_bars (z : RM) (v : Int32) : RM_tapeSize (RM_s_bars z v) = RM_tapeSize z := rfl
theorem RM_tapeSize_s_kind (z : RM) (v : (Nat → Int32)) : RM_tapeSize (RM_s_kind z v) = RM_tapeSize z := rfl
theorem RM_tapeSize_s_size (z : RM) (v : (Nat → Int32)) : RM_tapeSize (RM_s_size z v) = RM_tapeSize z := rfl
theorem RM_tapeSize_s_on (z : RM) (v : (Nat → Int32)) : RM_tapeSize (RM_s_on z v) = RM_tapeSize z := rfl
theorem RM_tapeSize_s_stuck (z : RM) (v : (Nat → Int32)) : RM_tapeSize (RM_s_stuck z v) = RM_tapeSize z := rfl
theorem RM_tapeSize_s_must (z : RM) (v : (Nat → Nat → Int32)) : RM_tapeSize (RM_s_must z v) = RM_tapeSize z := rfl
theorem RM_tapeSize_s_not (z : RM) (v : (Nat → Nat → Int32)) : RM_tapeSize (RM_s_not z v) = RM_tapeSize z := rfl
theorem RM_tapeSize_s_minutes (z : RM) (v : (Nat → Int32)) : RM_tapeSize (RM_s_minutes z v) = RM_tapeSize z := rfl
theorem RM_tapeSize_s_movedAll (z : RM) (v : Int32) : RM_tapeSize (RM_s_movedAll z v) = RM_tapeSize z := rfl
theorem RM_tapeSize_s_seed (z : RM) (v : Int32) : RM_tapeSize (RM_s_seed z v) = RM_tapeSize z := rfl
theorem RM_tapeSize_s_at (z : RM) (v : Int32) : RM_tapeSize (RM_s_at z v) = RM_tapeSize z := rfl
theorem RM_tapeSize_s_token (z : RM) (v : Int32) : RM_tapeSize (RM_s_token z v) = RM_tapeSize z := rfl
theorem RM_tapeSize_s_from (z : RM) (v : Int32) : RM_tapeSize (RM_s_from z v) = RM_tapeSize z := rfl
theorem RM_tapeSize_s_figures (z : RM) (v : Int32) : RM_tapeSize (RM_s_figures z v) = RM_tapeSize z := rfl
theorem RM_tapeSize_s_fault (z : RM) (v : Int32) : RM_tapeSize (RM_s_fault z v) = RM_tapeSize z := rfl
theorem RM_tapeSize_s_told (z : RM) (v : (Nat → Int32)) : RM_tapeSize (RM_s_told z v) = RM_tapeSize z := rfl
theorem RM_tapeSize_s_statements (z : RM) (v : Int32) : RM_tapeSize (RM_s_statements z v) = RM_tapeSize z := rfl
theorem RM_tapeSize_s_far (z : RM) (v : (Nat → Int32)) : RM_tapeSize (RM_s_far z v) = RM_tapeSize z := rfl
theorem RM_tapeSize_s_queue (z : RM) (v : (Nat → Int32)) : RM_tapeSize (RM_s_queue z v) = RM_tapeSize z := rfl
theorem RM_tapeSize_s_queued (z : RM) (v : Int32) : RM_tapeSize (RM_s_queued z v) = RM_tapeSize z := rfl
theorem RM_tapeSize_s_parts1 (z : RM) (v : (Nat → Int32)) : RM_tapeSize (RM_s_parts1 z v) = RM_tapeSize z := rfl
theorem RM_tapeSize_s_parts2 (z : RM) (v : (Nat → Int32)) : RM_tapeSize (RM_s_parts2 z v) = RM_tapeSize z := rfl
theorem RM_tapeSize_s_picturesSum (z : RM) (v : Int32) : RM_tapeSize (RM_s_picturesSum z v) = RM_tapeSize z := rfl
theorem RM_tapeSize_s_behindAll (z : RM) (v : Int32) : RM_tapeSize (RM_s_behindAll z v) = RM_tapeSize z := rfl
theorem RM_tapeSize_s_pl (z : RM) (v : Nat) : RM_tapeSize (RM_s_pl z v) = RM_tapeSize z := rfl
theorem RM_refused_s_shelf (z : RM) (v : (Nat → Int32)) : RM_refused (RM_s_shelf z v) = RM_refused z := rfl
theorem RM_refused_s_rowSort (z : RM) (v : (Nat → Int32)) : RM_refused (RM_s_rowSort z v) = RM_refused z := rfl
theorem RM_refused_s_rowSize (z : RM) (v : (Nat → Int32)) : RM_refused (RM_s_rowSize z v) = RM_refused z := rfl
theorem RM_refused_s_rows (z : RM) (v : (Nat → Nat → Int64)) : RM_refused (RM_s_rows z v) = RM_refused z := rfl
theorem RM_refused_s_moved1 (z : RM) (v : (Nat → Int64)) : RM_refused (RM_s_moved1 z v) = RM_refused z := rfl
theorem RM_refused_s_shown (z : RM) (v : (Nat → Int32)) : RM_refused (RM_s_shown z v) = RM_refused z := rfl
theorem RM_refused_s_tape (z : RM) (v : (Nat → Int32)) : RM_refused (RM_s_tape z v) = RM_refused z := rfl
theorem RM_refused_s_tapeSize (z : RM) (v : Int32) : RM_refused (RM_s_tapeSize z v) = RM_refused z := rfl
theorem RM_refused_s_refused (z : RM) (v : (Nat → Int32)) : RM_refused (RM_s_refused z v) = v := rfl
theorem RM_refused_s_bars (z : RM) (v : Int32) : RM_refused (RM_s_bars z v) = RM_refused z := rfl
theorem RM_refused_s_kind (z : RM) (v : (Nat → Int32)) : RM_refused (RM_s_kind z v) = RM_refused z := rfl
theorem RM_refused_s_size (z : RM) (v : (Nat → Int32)) : RM_refused (RM_s_size z v) = RM_refused z := rfl
theorem RM_refused_s_on (z : RM) (v : (Nat → Int32)) : RM_refused (RM_s_on z v) = RM_refused z := rfl
theorem RM_refused_s_stuck (z : RM) (v : (Nat → Int32)) : RM_refused (RM_s_stuck z v) = RM_refused z := rfl
theorem RM_refused_s_must (z : RM) (v : (Nat → Nat → Int32)) : RM_refused (RM_s_must z v) = RM_refused z := rfl
theorem RM_refused_s_not (z : RM) (v : (Nat → Nat → Int32)) : RM_refused (RM_s_not z v) = RM_refused z := rfl
theorem RM_refused_s_minutes (z : RM) (v : (Nat → Int32)) : RM_refused (RM_s_minutes z v) = RM_refused z := rfl
theorem RM_refused_s_movedAll (z : RM) (v : Int32) : RM_refused (RM_s_movedAll z v) = RM_refused z := rfl
theorem RM_refused_s_seed (z : RM) (v : Int32) : RM_refused (RM_s_seed z v) = RM_refused z := rfl
theorem RM_refused_s_at (z : RM) (v : Int32) : RM_refused (RM_s_at z v) = RM_refused z := rfl
theorem RM_refused_s_token (z : RM) (v : Int32) : RM_refused (RM_s_token z v) = RM_refused z := rfl
theorem RM_refused_s_from (z : RM) (v : Int32) : RM_refused (RM_s_from z v) = RM_refused z := rfl
theorem RM_refused_s_figures (z : RM) (v : Int32) : RM_refused (RM_s_figures z v) = RM_refused z := rfl
theorem RM_refused_s_fault (z : RM) (v : Int32) : RM_refused (RM_s_fault z v) = RM_refused z := rfl
theorem RM_refused_s_told (z : RM) (v : (Nat → Int32)) : RM_refused (RM_s_told z v) = RM_refused z := rfl
theorem RM_refused_s_statements (z : RM) (v : Int32) : RM_refused (RM_s_statements z v) = RM_refused z := rfl
theorem RM_refused_s_far (z : RM) (v : (Nat → Int32)) : RM_refused (RM_s_far z v) = RM_refused z := rfl
theorem RM_refused_s_queue (z : RM) (v : (Nat → Int32)) : RM_refused (RM_s_queue z v) = RM_refused z := rfl
theorem RM_refused_s_queued (z : RM) (v : Int32) : RM_refused (RM_s_queued z v) = RM_refused z := rfl
theorem RM_refused_s_parts1 (z : RM) (v : (Nat → Int32)) : RM_refused (RM_s_parts1 z v) = RM_refused z := rfl
theorem RM_refused_s_parts2 (z : RM) (v : (Nat → Int32)) : RM_refused (RM_s_parts2 z v) = RM_refused z := rfl
theorem RM_refused_s_picturesSum (z : RM) (v : Int32) : RM_refused (RM_s_picturesSum z v) = RM_refused z := rfl
theorem RM_refused_s_behindAll (z : RM) (v : Int32) : RM_refused (RM_s_behindAll z v) = RM_refused z := rfl
theorem RM_refused_s_pl (z : RM) (v : Nat) : RM_refused (RM_s_pl z v) = RM_refused z := rfl
theorem RM_bars_s_shelf (z : RM) (v : (Nat → Int32)) : RM_bars (RM_s_shelf z v) = RM_bars z := rfl
theorem RM_bars_s_rowSort (z : RM) (v : (Nat → Int32)) : RM_bars (RM_s_rowSort z v) = RM_bars z := rfl
theorem RM_bars_s_rowSize (z : RM) (v : (Nat → Int32)) : RM_bars (RM_s_rowSize z v) = RM_bars z := rfl
theorem RM_bars_s_rows (z : RM) (v : (Nat → Nat → Int64)) : RM_bars (RM_s_rows z v) = RM_bars z := rfl
theorem RM_bars_s_moved1 (z : RM) (v : (Nat → Int64)) : RM_bars (RM_s_moved1 z v) = RM_bars z := rfl
theorem RM_bars_s_shown (z : RM) (v : (Nat → Int32)) : RM_bars (RM_s_shown z v) = RM_bars z := rfl
theorem RM_bars_s_tape (z : RM) (v : (Nat → Int32)) : RM_bars (RM_s_tape z v) = RM_bars z := rfl
theorem RM_bars_s_tapeSize (z : RM) (v : Int32) : RM_bars (RM_s_tapeSize z v) = RM_bars z := rfl
theorem RM_bars_s_refused (z : RM) (v : (Nat → Int32)) : RM_bars (RM_s_refused z v) = RM_bars z := rfl
theorem RM_bars_s_bars (z : RM) (v : Int32) : RM_bars (RM_s_bars z v) = v := rfl
theorem RM_bars_s_kind (z : RM) (v : (Nat → Int32)) : RM_bars (RM_s_kind z v) = RM_bars z := rfl
theorem RM_bars_s_size (z : RM) (v : (Nat → Int32)) : RM_bars (RM_s_size z v) = RM_bars z := rfl
theorem RM_bars_s_on (z : RM) (v : (Nat → Int32)) : RM_bars (RM_s_on z v) = RM_bars z := rfl
theorem RM_bars_s_stuck (z : RM) (v : (Nat → Int32)) : RM_bars (RM_s_stuck z v) = RM_bars z := rfl
theorem RM_bars_s_must (z : RM) (v : (Nat → Nat → Int32)) : RM_bars (RM_s_must z v) = RM_bars z := rfl
theorem RM_bars_s_not (z : RM) (v : (Nat → Nat → Int32)) : RM_bars (RM_s_not z v) = RM_bars z := rfl
theorem RM_bars_s_minutes (z : RM) (v : (Nat → Int32)) : RM_bars (RM_s_minutes z v) = RM_bars z := rfl
theorem RM_bars_s_movedAll (z : RM) (v : Int32) : RM_bars (RM_s_movedAll z v) = RM_bars z := rfl
theorem RM_bars_s_seed (z : RM) (v : Int32) : RM_bars (RM_s_seed z v) = RM_bars z := rfl
theorem RM_bars_s_at (z : RM) (v : Int32) : RM_bars (RM_s_at z v) = RM_bars z := rfl
theorem RM_bars_s_token (z : RM) (v : Int32) : RM_bars (RM_s_token z v) = RM_bars z := rfl
theorem RM_bars_s_from (z : RM) (v : Int32) : RM_bars (RM_s_from z v) = RM_bars z := rfl
theorem RM_bars_s_figures (z : RM) (v : Int32) : RM_bars (RM_s_figures z v) = RM_bars z := rfl
theorem RM_bars_s_fault (z : RM) (v : Int32) : RM_bars (RM_s_fault z v) = RM_bars z := rfl
theorem RM_bars_s_told (z : RM) (v : (Nat → Int32)) : RM_bars (RM_s_told z v) = RM_bars z := rfl
theorem RM_bars_s_statements (z : RM) (v : Int32) : RM_bars (RM_s_statements z v) = RM_bars z := rfl
theorem RM_bars_s_far (z : RM) (v : (Nat → Int32)) : RM_bars (RM_s_far z v) = RM_bars z := rfl
theorem RM_bars_s_queue (z : RM) (v : (Nat → Int32)) : RM_bars (RM_s_queue z v) = RM_bars z := rfl
theorem RM_bars_s_queued (z : RM) (v : Int32) : RM_bars (RM_s_queued z v) = RM_bars z := rfl
theorem RM_bars_s_parts1 (z : RM) (v : (Nat → Int32)) : RM_bars (RM_s_parts1 z v) = RM_bars z := rfl
theorem RM_bars_s_parts2 (z : RM) (v : (Nat → Int32)) : RM_bars (RM_s_parts2 z v) = RM_bars z := rfl
theorem RM_bars_s_picturesSum (z : RM) (v : Int32) : RM_bars (RM_s_picturesSum z v) = RM_bars z := rfl
theorem RM_bars_s_behindAll (z : RM) (v : Int32) : RM_bars (RM_s_behindAll z v) = RM_bars z := rfl
theorem RM_bars_s_pl (z : RM) (v : Nat) : RM_bars (RM_s_pl z v) = RM_bars z := rfl
theorem RM_kind_s_shelf (z : RM) (v : (Nat → Int32)) : RM_kind (RM_s_shelf z v) = RM_kind z := rfl
theorem RM_kind_s_rowSort (z : RM) (v : (Nat → Int32)) : RM_kind (RM_s_rowSort z v) = RM_kind z := rfl
theorem RM_kind_s_rowSize (z : RM) (v : (Nat → Int32)) : RM_kind (RM_s_rowSize z v) = RM_kind z := rfl
theorem RM_kind_s_rows (z : RM) (v : (Nat → Nat → Int64)) : RM_kind (RM_s_rows z v) = RM_kind z := rfl
theorem RM_kind_s_moved1 (z : RM) (v : (Nat → Int64)) : RM_kind (RM_s_moved1 z v) = RM_kind z := rfl
theorem RM_kind_s_shown (z : RM) (v : (Nat → Int32)) : RM_kind (RM_s_shown z v) = RM_kind z := rfl
theorem RM_kind_s_tape (z : RM) (v : (Nat → Int32)) : RM_kind (RM_s_tape z v) = RM_kind z := rfl
theorem RM_kind_s_tapeSize (z : RM) (v : Int32) : RM_kind (RM_s_tapeSize z v) = RM_kind z := rfl
theorem RM_kind_s_refused (z : RM) (v : (Nat → Int32)) : RM_kind (RM_s_refused z v) = RM_kind z := rfl
theorem RM_kind_s_bars (z : RM) (v : Int32) : RM_kind (RM_s_bars z v) = RM_kind z := rfl
theorem RM_kind_s_kind (z : RM) (v : (Nat → Int32)) : RM_kind (RM_s_kind z v) = v := rfl
theorem RM_kind_s_size (z : RM) (v : (Nat → Int32)) : RM_kind (RM_s_size z v) = RM_kind z := rfl
theorem RM_kind_s_on (z : RM) (v : (Nat → Int32)) : RM_kind (RM_s_on z v) = RM_kind z := rfl
theorem RM_kind_s_stuck (z : RM) (v : (Nat → Int32)) : RM_kind (RM_s_stuck z v) = RM_kind z := rfl
theorem RM_kind_s_must (z : RM) (v : (Nat → Nat → Int32)) : RM_kind (RM_s_must z v) = RM_kind z := rfl
theorem RM_kind_s_not (z : RM) (v : (Nat → Nat → Int32)) : RM_kind (RM_s_not z v) = RM_kind z := rfl
theorem RM_kind_s_minutes (z : RM) (v : (Nat → Int32)) : RM_kind (RM_s_minutes z v) = RM_kind z := rfl
theorem RM_kind_s_movedAll (z : RM) (v : Int32) : RM_kind (RM_s_movedAll z v) = RM_kind z := rfl
theorem RM_kind_s_seed (z : RM) (v : Int32) : RM_kind (RM_s_seed z v) = RM_kind z := rfl
theorem RM_kind_s_at (z : RM) (v : Int32) : RM_kind (RM_s_at z v) = RM_kind z := rfl
theorem RM_kind_s_token (z : RM) (v : Int32) : RM_kind (RM_s_token z v) = RM_kind z := rfl
theorem RM_kind_s_from (z : RM) (v : Int32) : RM_kind (RM_s_from z v) = RM_kind z := rfl
theorem RM_kind_s_figures (z : RM) (v : Int32) : RM_kind (RM_s_figures z v) = RM_kind z := rfl
theorem RM_kind_s_fault (z : RM) (v : Int32) : RM_kind (RM_s_fault z v) = RM_kind z := rfl
theorem RM_kind_s_told (z : RM) (v : (Nat → Int32)) : RM_kind (RM_s_told z v) = RM_kind z := rfl
theorem RM_kind_s_statements (z : RM) (v : Int32) : RM_kind (RM_s_statements z v) = RM_kind z := rfl
theorem RM_kind_s_far (z : RM) (v : (Nat → Int32)) : RM_kind (RM_s_far z v) = RM_kind z := rfl
theorem RM_kind_s_queue (z : RM) (v : (Nat → Int32)) : RM_kind (RM_s_queue z v) = RM_kind z := rfl
theorem RM_kind_s_queued (z : RM) (v : Int32) : RM_kind (RM_s_queued z v) = RM_kind z := rfl
theorem RM_kind_s_parts1 (z : RM) (v : (Nat → Int32)) : RM_kind (RM_s_parts1 z v) = RM_kind z := rfl
theorem RM_kind_s_parts2 (z : RM) (v : (Nat → Int32)) : RM_kind (RM_s_parts2 z v) = RM_kind z := rfl
theorem RM_kind_s_picturesSum (z : RM) (v : Int32) : RM_kind (RM_s_picturesSum z v) = RM_kind z := rfl
theorem RM_kind_s_behindAll (z : RM) (v : Int32) : RM_kind (RM_s_behindAll z v) = RM_kind z := rfl
theorem RM_kind_s_pl (z : RM) (v : Nat) : RM_kind (RM_s_pl z v) = RM_kind z := rfl
theorem RM_size_s_shelf (z : RM) (v : (Nat → Int32)) : RM_size (RM_s_shelf z v) = RM_size z := rfl
theorem RM_size_s_rowSort (z : RM) (v : (Nat → Int32)) : RM_size (RM_s_rowSort z v) = RM_size z := rfl
theorem RM_size_s_rowSize (z : RM) (v : (Nat → Int32)) : RM_size (RM_s_rowSize z v) = RM_size z := rfl
theorem RM_size_s_rows (z : RM) (v : (Nat → Nat → Int64)) : RM_size (RM_s_rows z v) = RM_size z := rfl
theorem RM_size_s_moved1 (z : RM) (v : (Nat → Int64)) : RM_size (RM_s_moved1 z v) = RM_size z := rfl
theorem RM_size_s_shown (z : RM) (v : (Nat → Int32)) : RM_size (RM_s_shown z v) = RM_size z := rfl
theorem RM_size_s_tape (z : RM) (v : (Nat → Int32)) : RM_size (RM_s_tape z v) = RM_size z := rfl
theorem RM_size_s_tapeSize (z : RM) (v : Int32) : RM_size (RM_s_tapeSize z v) = RM_size z := rfl
theorem RM_size_s_refused (z : RM) (v : (Nat → Int32)) : RM_size (RM_s_refused z v) = RM_size z := rfl
theorem RM_size_s_bars (z : RM) (v : Int32) : RM_size (RM_s_bars z v) = RM_size z := rfl
theorem RM_size_s_kind (z : RM) (v : (Nat → Int32)) : RM_size (RM_s_kind z v) = RM_size z := rfl
theorem RM_size_s_size (z : RM) (v : (Nat → Int32)) : RM_size (RM_s_size z v) = v := rfl
theorem RM_size_s_on (z : RM) (v : (Nat → Int32)) : RM_size (RM_s_on z v) = RM_size z := rfl
theorem RM_size_s_stuck (z : RM) (v : (Nat → Int32)) : RM_size (RM_s_stuck z v) = RM_size z := rfl
theorem RM_size_s_must (z : RM) (v : (Nat → Nat → Int32)) : RM_size (RM_s_must z v) = RM_size z := rfl
theorem RM_size_s_not (z : RM) (v : (Nat → Nat → Int32)) : RM_size (RM_s_not z v) = RM_size z := rfl
theorem RM_size_s_minutes (z : RM) (v : (Nat → Int32)) : RM_size (RM_s_minutes z v) = RM_size z := rfl
theorem RM_size_s_movedAll (z : RM) (v : Int32) : RM_size (RM_s_movedAll z v) = RM_size z := rfl
theorem RM_size_s_seed (z : RM) (v : Int32) : RM_size (RM_s_seed z v) = RM_size z := rfl
theorem RM_size_s_at (z : RM) (v : Int32) : RM_size (RM_s_at z v) = RM_size z := rfl
theorem RM_size_s_token (z : RM) (v : Int32) : RM_size (RM_s_token z v) = RM_size z := rfl
theorem RM_size_s_from (z : RM) (v : Int32) : RM_size (RM_s_from z v) = RM_size z := rfl
theorem RM_size_s_figures (z : RM) (v : Int32) : RM_size (RM_s_figures z v) = RM_size z := rfl
theorem RM_size_s_fault (z : RM) (v : Int32) : RM_size (RM_s_fault z v) = RM_size z := rfl
theorem RM_size_s_told (z : RM) (v : (Nat → Int32)) : RM_size (RM_s_told z v) = RM_size z := rfl
theorem RM_size_s_statements (z : RM) (v : Int32) : RM_size (RM_s_statements z v) = RM_size z := rfl
theorem RM_size_s_far (z : RM) (v : (Nat → Int32)) : RM_size (RM_s_far z v) = RM_size z := rfl
theorem RM_size_s_queue (z : RM) (v : (Nat → Int32)) : RM_size (RM_s_queue z v) = RM_size z := rfl
theorem RM_size_s_queued (z : RM) (v : Int32) : RM_size (RM_s_queued z v) = RM_size z := rfl
theorem RM_size_s_parts1 (z : RM) (v : (Nat → Int32)) : RM_size (RM_s_parts1 z v) = RM_size z := rfl
theorem RM_size_s_parts2 (z : RM) (v : (Nat → Int32)) : RM_size (RM_s_parts2 z v) = RM_size z := rfl
theorem RM_size_s_picturesSum (z : RM) (v : Int32) : RM_size (RM_s_picturesSum z v) = RM_size z := rfl
theorem RM_size_s_behindAll (z : RM) (v : Int32) : RM_size (RM_s_behindAll z v) = RM_size z := rfl
theorem RM_size_s_pl (z : RM) (v : Nat) : RM_size (RM_s_pl z v) = RM_size z := rfl
theorem RM_on_s_shelf (z : RM) (v : (Nat → Int32)) : RM_on (RM_s_shelf z v) = RM_on z := rfl
theorem RM_on_s_rowSort (z : RM) (v : (Nat → Int32)) : RM_on (RM_s_rowSort z v) = RM_on z := rfl
theorem RM_on_s_rowSize (z : RM) (v : (Nat → Int32)) : RM_on (RM_s_rowSize z v) = RM_on z := rfl
theorem RM_on_s_rows (z : RM) (v : (Nat → Nat → Int64)) : RM_on (RM_s_rows z v) = RM_on z := rfl
theorem RM_on_s_moved1 (z : RM) (v : (Nat → Int64)) : RM_on (RM_s_moved1 z v) = RM_on z := rfl
theorem RM_on_s_shown (z : RM) (v : (Nat → Int32)) : RM_on (RM_s_shown z v) = RM_on z := rfl
theorem RM_on_s_tape (z : RM) (v : (Nat → Int32)) : RM_on (RM_s_tape z v) = RM_on z := rfl
theorem RM_on_s_tapeSize (z : RM) (v : Int32) : RM_on (RM_s_tapeSize z v) = RM_on z := rfl
theorem RM_on_s_refused (z : RM) (v : (Nat → Int32)) : RM_on (RM_s_refused z v) = RM_on z := rfl
theorem RM_on_s_bars (z : RM) (v : Int32) : RM_on (RM_s_bars z v) = RM_on z := rfl
theorem RM_on_s_kind (z : RM) (v : (Nat → Int32)) : RM_on (RM_s_kind z v) = RM_on z := rfl
theorem RM_on_s_size (z : RM) (v : (Nat → Int32)) : RM_on (RM_s_size z v) = RM_on z := rfl
theorem RM_on_s_on (z : RM) (v : (Nat → Int32)) : RM_on (RM_s_on z v) = v := rfl
theorem RM_on_s_stuck (z : RM) (v : (Nat → Int32)) : RM_on (RM_s_stuck z v) = RM_on z := rfl
theorem RM_on_s_must (z : RM) (v : (Nat → Nat → Int32)) : RM_on (RM_s_must z v) = RM_on z := rfl
theorem RM_on_s_not (z : RM) (v : (Nat → Nat → Int32)) : RM_on (RM_s_not z v) = RM_on z := rfl
theorem RM_on_s_minutes (z : RM) (v : (Nat → Int32)) : RM_on (RM_s_minutes z v) = RM_on z := rfl
theorem RM_on_s_movedAll (z : RM) (v : Int32) : RM_on (RM_s_movedAll z v) = RM_on z := rfl
theorem RM_on_s_seed (z : RM) (v : Int32) : RM_on (RM_s_seed z v) = RM_on z := rfl
theorem RM_on_s_at (z : RM) (v : Int32) : RM_on (RM_s_at z v) = RM_on z := rfl
theorem RM_on_s_token (z : RM) (v : Int32) : RM_on (RM_s_token z v) = RM_on z := rfl
theorem RM_on_s_from (z : RM) (v : Int32) : RM_on (RM_s_from z v) = RM_on z := rfl
theorem RM_on_s_figures (z : RM) (v : Int32) : RM_on (RM_s_figures z v) = RM_on z := rfl
theorem RM_on_s_fault (z : RM) (v : Int32) : RM_on (RM_s_fault z v) = RM_on z := rfl
theorem RM_on_s_told (z : RM) (v : (Nat → Int32)) : RM_on (RM_s_told z v) = RM_on z := rfl
theorem RM_on_s_statements (z : RM) (v : Int32) : RM_on (RM_s_statements z v) = RM_on z := rfl
theorem RM_on_s_far (z : RM) (v : (Nat → Int32)) : RM_on (RM_s_far z v) = RM_on z := rfl
theorem RM_on_s_queue (z : RM) (v : (Nat → Int32)) : RM_on (RM_s_queue z v) = RM_on z := rfl
theorem RM_on_s_queued (z : RM) (v : Int32) : RM_on (RM_s_queued z v) = RM_on z := rfl
theorem RM_on_s_parts1 (z : RM) (v : (Nat → Int32)) : RM_on (RM_s_parts1 z v) = RM_on z := rfl
theorem RM_on_s_parts2 (z : RM) (v : (Nat → Int32)) : RM_on (RM_s_parts2 z v) = RM_on z := rfl
theorem RM_on_s_picturesSum (z : RM) (v : Int32) : RM_on (RM_s_picturesSum z v) = RM_on z := rfl
theorem RM_on_s_behindAll (z : RM) (v : Int32) : RM_on (RM_s_behindAll z v) = RM_on z := rfl
theorem RM_on_s_pl (z : RM) (v : Nat) : RM_on (RM_s_pl z v) = RM_on z := rfl
theorem RM_stuck_s_shelf (z : RM) (v : (Nat → Int32)) : RM_stuck (RM_s_shelf z v) = RM_stuck z := rfl
theorem RM_stuck_s_rowSort (z : RM) (v : (Nat → Int32)) : RM_stuck (RM_s_rowSort z v) = RM_stuck z := rfl
theorem RM_stuck_s_rowSize (z : RM) (v : (Nat → Int32)) : RM_stuck (RM_s_rowSize z v) = RM_stuck z := rfl
theorem RM_stuck_s_rows (z : RM) (v : (Nat → Nat → Int64)) : RM_stuck (RM_s_rows z v) = RM_stuck z := rfl
theorem RM_stuck_s_moved1 (z : RM) (v : (Nat → Int64)) : RM_stuck (RM_s_moved1 z v) = RM_stuck z := rfl
theorem RM_stuck_s_shown (z : RM) (v : (Nat → Int32)) : RM_stuck (RM_s_shown z v) = RM_stuck z := rfl
theorem RM_stuck_s_tape (z : RM) (v : (Nat → Int32)) : RM_stuck (RM_s_tape z v) = RM_stuck z := rfl
theorem RM_stuck_s_tapeSize (z : RM) (v : Int32) : RM_stuck (RM_s_tapeSize z v) = RM_stuck z := rfl
theorem RM_stuck_s_refused (z : RM) (v : (Nat → Int32)) : RM_stuck (RM_s_refused z v) = RM_stuck z := rfl
theorem RM_stuck_s_bars (z : RM) (v : Int32) : RM_stuck (RM_s_bars z v) = RM_stuck z := rfl
theorem RM_stuck_s_kind (z : RM) (v : (Nat → Int32)) : RM_stuck (RM_s_kind z v) = RM_stuck z := rfl
theorem RM_stuck_s_size (z : RM) (v : (Nat → Int32)) : RM_stuck (RM_s_size z v) = RM_stuck z := rfl
theorem RM_stuck_s_on (z : RM) (v : (Nat → Int32)) : RM_stuck (RM_s_on z v) = RM_stuck z := rfl
theorem RM_stuck_s_stuck (z : RM) (v : (Nat → Int32)) : RM_stuck (RM_s_stuck z v) = v := rfl
theorem RM_stuck_s_must (z : RM) (v : (Nat → Nat → Int32)) : RM_stuck (RM_s_must z v) = RM_stuck z := rfl
theorem RM_stuck_s_not (z : RM) (v : (Nat → Nat → Int32)) : RM_stuck (RM_s_not z v) = RM_stuck z := rfl
theorem RM_stuck_s_minutes (z : RM) (v : (Nat → Int32)) : RM_stuck (RM_s_minutes z v) = RM_stuck z := rfl
theorem RM_stuck_s_movedAll (z : RM) (v : Int32) : RM_stuck (RM_s_movedAll z v) = RM_stuck z := rfl
theorem RM_stuck_s_seed (z : RM) (v : Int32) : RM_stuck (RM_s_seed z v) = RM_stuck z := rfl
theorem RM_stuck_s_at (z : RM) (v : Int32) : RM_stuck (RM_s_at z v) = RM_stuck z := rfl
theorem RM_stuck_s_token (z : RM) (v : Int32) : RM_stuck (RM_s_token z v) = RM_stuck z := rfl
theorem RM_stuck_s_from (z : RM) (v : Int32) : RM_stuck (RM_s_from z v) = RM_stuck z := rfl
theorem RM_stuck_s_figures (z : RM) (v : Int32) : RM_stuck (RM_s_figures z v) = RM_stuck z := rfl
theorem RM_stuck_s_fault (z : RM) (v : Int32) : RM_stuck (RM_s_fault z v) = RM_stuck z := rfl
theorem RM_stuck_s_told (z : RM) (v : (Nat → Int32)) : RM_stuck (RM_s_told z v) = RM_stuck z := rfl
theorem RM_stuck_s_statements (z : RM) (v : Int32) : RM_stuck (RM_s_statements z v) = RM_stuck z := rfl
theorem RM_stuck_s_far (z : RM) (v : (Nat → Int32)) : RM_stuck (RM_s_far z v) = RM_stuck z := rfl
theorem RM_stuck_s_queue (z : RM) (v : (Nat → Int32)) : RM_stuck (RM_s_queue z v) = RM_stuck z := rfl
theorem RM_stuck_s_queued (z : RM) (v : Int32) : RM_stuck (RM_s_queued z v) = RM_stuck z := rfl
theorem RM_stuck_s_parts1 (z : RM) (v : (Nat → Int32)) : RM_stuck (RM_s_parts1 z v) = RM_stuck z := rfl
theorem RM_stuck_s_parts2 (z : RM) (v : (Nat → Int32)) : RM_stuck (RM_s_parts2 z v) = RM_stuck z := rfl
theorem RM_stuck_s_picturesSum (z : RM) (v : Int32) : RM_stuck (RM_s_picturesSum z v) = RM_stuck z := rfl
theorem RM_stuck_s_behindAll (z : RM) (v : Int32) : RM_stuck (RM_s_behindAll z v) = RM_stuck z := rfl
theorem RM_stuck_s_pl (z : RM) (v : Nat) : RM_stuck (RM_s_pl z v) = RM_stuck z := rfl
theorem RM_must_s_shelf (z : RM) (v : (Nat → Int32)) : RM_must (RM_s_shelf z v) = RM_must z := rfl
theorem RM_must_s_rowSort (z : RM) (v : (Nat → Int32)) : RM_must (RM_s_rowSort z v) = RM_must z := rfl
theorem RM_must_s_rowSize (z : RM) (v : (Nat → Int32)) : RM_must (RM_s_rowSize z v) = RM_must z := rfl
theorem RM_must_s_rows (z : RM) (v : (Nat → Nat → Int64)) : RM_must (RM_s_rows z v) = RM_must z := rfl
theorem RM_must_s_moved1 (z : RM) (v : (Nat → Int64)) : RM_must (RM_s_moved1 z v) = RM_must z := rfl
theorem RM_must_s_shown (z : RM) (v : (Nat → Int32)) : RM_must (RM_s_shown z v) = RM_must z := rfl
theorem RM_must_s_tape (z : RM) (v : (Nat → Int32)) : RM_must (RM_s_tape z v) = RM_must z := rfl
theorem RM_must_s_tapeSize (z : RM) (v : Int32) : RM_must (RM_s_tapeSize z v) = RM_must z := rfl
theorem RM_must_s_refused (z : RM) (v : (Nat → Int32)) : RM_must (RM_s_refused z v) = RM_must z := rfl
theorem RM_must_s_bars (z : RM) (v : Int32) : RM_must (RM_s_bars z v) = RM_must z := rfl
theorem RM_must_s_kind (z : RM) (v : (Nat → Int32)) : RM_must (RM_s_kind z v) = RM_must z := rfl
theorem RM_must_s_size (z : RM) (v : (Nat → Int32)) : RM_must (RM_s_size z v) = RM_must z := rfl
theorem RM_must_s_on (z : RM) (v : (Nat → Int32)) : RM_must (RM_s_on z v) = RM_must z := rfl
theorem RM_must_s_stuck (z : RM) (v : (Nat → Int32)) : RM_must (RM_s_stuck z v) = RM_must z := rfl
theorem RM_must_s_must (z : RM) (v : (Nat → Nat → Int32)) : RM_must (RM_s_must z v) = v := rfl
theorem RM_must_s_not (z : RM) (v : (Nat → Nat → Int32)) : RM_must (RM_s_not z v) = RM_must z := rfl
theorem RM_must_s_minutes (z : RM) (v : (Nat → Int32)) : RM_must (RM_s_minutes z v) = RM_must z := rfl
theorem RM_must_s_movedAll (z : RM) (v : Int32) : RM_must (RM_s_movedAll z v) = RM_must z := rfl
theorem RM_must_s_seed (z : RM) (v : Int32) : RM_must (RM_s_seed z v) = RM_must z := rfl
theorem RM_must_s_at (z : RM) (v : Int32) : RM_must (RM_s_at z v) = RM_must z := rfl
theorem RM_must_s_token (z : RM) (v : Int32) : RM_must (RM_s_token z v) = RM_must z := rfl
theorem RM_must_s_from (z : RM) (v : Int32) : RM_must (RM_s_from z v) = RM_must z := rfl
theorem RM_must_s_figures (z : RM) (v : Int32) : RM_must (RM_s_figures z v) = RM_must z := rfl
theorem RM_must_s_fault (z : RM) (v : Int32) : RM_must (RM_s_fault z v) = RM_must z := rfl
theorem RM_must_s_told (z : RM) (v : (Nat → Int32)) : RM_must (RM_s_told z v) = RM_must z := rfl
theorem RM_must_s_statements (z : RM) (v : Int32) : RM_must (RM_s_statements z v) = RM_must z := rfl
theorem RM_must_s_far (z : RM) (v : (Nat → Int32)) : RM_must (RM_s_far z v) = RM_must z := rfl
theorem RM_must_s_queue (z : RM) (v : (Nat → Int32)) : RM_must (RM_s_queue z v) = RM_must z := rfl
theorem RM_must_s_queued (z : RM) (v : Int32) : RM_must (RM_s_queued z v) = RM_must z := rfl
theorem RM_must_s_parts1 (z : RM) (v : (Nat → Int32)) : RM_must (RM_s_parts1 z v) = RM_must z := rfl
theorem RM_must_s_parts2 (z : RM) (v : (Nat → Int32)) : RM_must (RM_s_parts2 z v) = RM_must z := rfl
theorem RM_must_s_picturesSum (z : RM) (v : Int32) : RM_must (RM_s_picturesSum z v) = RM_must z := rfl
theorem RM_must_s_behindAll (z : RM) (v : Int32) : RM_must (RM_s_behindAll z v) = RM_must z := rfl
theorem RM_must_s_pl (z : RM) (v : Nat) : RM_must (RM_s_pl z v) = RM_must z := rfl
theorem RM_not_s_shelf (z : RM) (v : (Nat → Int32)) : RM_not (RM_s_shelf z v) = RM_not z := rfl
theorem RM_not_s_rowSort (z : RM) (v : (Nat → Int32)) : RM_not (RM_s_rowSort z v) = RM_not z := rfl
theorem RM_not_s_rowSize (z : RM) (v : (Nat → Int32)) : RM_not (RM_s_rowSize z v) = RM_not z := rfl
theorem RM_not_s_rows (z : RM) (v : (Nat → Nat → Int64)) : RM_not (RM_s_rows z v) = RM_not z := rfl
theorem RM_not_s_moved1 (z : RM) (v : (Nat → Int64)) : RM_not (RM_s_moved1 z v) = RM_not z := rfl
theorem RM_not_s_shown (z : RM) (v : (Nat → Int32)) : RM_not (RM_s_shown z v) = RM_not z := rfl
theorem RM_not_s_tape (z : RM) (v : (Nat → Int32)) : RM_not (RM_s_tape z v) = RM_not z := rfl
theorem RM_not_s_tapeSize (z : RM) (v : Int32) : RM_not (RM_s_tapeSize z v) = RM_not z := rfl
theorem RM_not_s_refused (z : RM) (v : (Nat → Int32)) : RM_not (RM_s_refused z v) = RM_not z := rfl
theorem RM_not_s_bars (z : RM) (v : Int32) : RM_not (RM_s_bars z v) = RM_not z := rfl
theorem RM_not_s_kind (z : RM) (v : (Nat → Int32)) : RM_not (RM_s_kind z v) = RM_not z := rfl
theorem RM_not_s_size (z : RM) (v : (Nat → Int32)) : RM_not (RM_s_size z v) = RM_not z := rfl
theorem RM_not_s_on (z : RM) (v : (Nat → Int32)) : RM_not (RM_s_on z v) = RM_not z := rfl
theorem RM_not_s_stuck (z : RM) (v : (Nat → Int32)) : RM_not (RM_s_stuck z v) = RM_not z := rfl
theorem RM_not_s_must (z : RM) (v : (Nat → Nat → Int32)) : RM_not (RM_s_must z v) = RM_not z := rfl
theorem RM_not_s_not (z : RM) (v : (Nat → Nat → Int32)) : RM_not (RM_s_not z v) = v := rfl
theorem RM_not_s_minutes (z : RM) (v : (Nat → Int32)) : RM_not (RM_s_minutes z v) = RM_not z := rfl
theorem RM_not_s_movedAll (z : RM) (v : Int32) : RM_not (RM_s_movedAll z v) = RM_not z := rfl
theorem RM_not_s_seed (z : RM) (v : Int32) : RM_not (RM_s_seed z v) = RM_not z := rfl
theorem RM_not_s_at (z : RM) (v : Int32) : RM_not (RM_s_at z v) = RM_not z := rfl
theorem RM_not_s_token (z : RM) (v : Int32) : RM_not (RM_s_token z v) = RM_not z := rfl
theorem RM_not_s_from (z : RM) (v : Int32) : RM_not (RM_s_from z v) = RM_not z := rfl
theorem RM_not_s_figures (z : RM) (v : Int32) : RM_not (RM_s_figures z v) = RM_not z := rfl
theorem RM_not_s_fault (z : RM) (v : Int32) : RM_not (RM_s_fault z v) = RM_not z := rfl
theorem RM_not_s_told (z : RM) (v : (Nat → Int32)) : RM_not (RM_s_told z v) = RM_not z := rfl
theorem RM_not_s_statements (z : RM) (v : Int32) : RM_not (RM_s_statements z v) = RM_not z := rfl
theorem RM_not_s_far (z : RM) (v : (Nat → Int32)) : RM_not (RM_s_far z v) = RM_not z := rfl
theorem RM_not_s_queue (z : RM) (v : (Nat → Int32)) : RM_not (RM_s_queue z v) = RM_not z := rfl
theorem RM_not_s_queued (z : RM) (v : Int32) : RM_not (RM_s_queued z v) = RM_not z := rfl
theorem RM_not_s_parts1 (z : RM) (v : (Nat → Int32)) : RM_not (RM_s_parts1 z v) = RM_not z := rfl
theorem RM_not_s_parts2 (z : RM) (v : (Nat → Int32)) : RM_not (RM_s_parts2 z v) = RM_not z := rfl
theorem RM_not_s_picturesSum (z : RM) (v : Int32) : RM_not (RM_s_picturesSum z v) = RM_not z := rfl
theorem RM_not_s_behindAll (z : RM) (v : Int32) : RM_not (RM_s_behindAll z v) = RM_not z := rfl
theorem RM_not_s_pl (z : RM) (v : Nat) : RM_not (RM_s_pl z v) = RM_not z := rfl
theorem RM_minutes_s_shelf (z : RM) (v : (Nat → Int32)) : RM_minutes (RM_s_shelf z v) = RM_minutes z := rfl
theorem RM_minutes_s_rowSort (z : RM) (v : (Nat → Int32)) : RM_minutes (RM_s_rowSort z v) = RM_minutes z := rfl
theorem RM_minutes_s_rowSize (z : RM) (v : (Nat → Int32)) : RM_minutes (RM_s_rowSize z v) = RM_minutes z := rfl
theorem RM_minutes_s_rows (z : RM) (v : (Nat → Nat → Int64)) : RM_minutes (RM_s_rows z v) = RM_minutes z := rfl
theorem RM_minutes_s_moved1 (z : RM) (v : (Nat → Int64)) : RM_minutes (RM_s_moved1 z v) = RM_minutes z := rfl
theorem RM_minutes_s_shown (z : RM) (v : (Nat → Int32)) : RM_minutes (RM_s_shown z v) = RM_minutes z := rfl
theorem RM_minutes_s_tape (z : RM) (v : (Nat → Int32)) : RM_minutes (RM_s_tape z v) = RM_minutes z := rfl
theorem RM_minutes_s_tapeSize (z : RM) (v : Int32) : RM_minutes (RM_s_tapeSize z v) = RM_minutes z := rfl
theorem RM_minutes_s_refused (z : RM) (v : (Nat → Int32)) : RM_minutes (RM_s_refused z v) = RM_minutes z := rfl
theorem RM_minutes_s_bars (z : RM) (v : Int32) : RM_minutes (RM_s_bars z v) = RM_minutes z := rfl
theorem RM_minutes_s_kind (z : RM) (v : (Nat → Int32)) : RM_minutes (RM_s_kind z v) = RM_minutes z := rfl
theorem RM_minutes_s_size (z : RM) (v : (Nat → Int32)) : RM_minutes (RM_s_size z v) = RM_minutes z := rfl
theorem RM_minutes_s_on (z : RM) (v : (Nat → Int32)) : RM_minutes (RM_s_on z v) = RM_minutes z := rfl
theorem RM_minutes_s_stuck (z : RM) (v : (Nat → Int32)) : RM_minutes (RM_s_stuck z v) = RM_minutes z := rfl
theorem RM_minutes_s_must (z : RM) (v : (Nat → Nat → Int32)) : RM_minutes (RM_s_must z v) = RM_minutes z := rfl
theorem RM_minutes_s_not (z : RM) (v : (Nat → Nat → Int32)) : RM_minutes (RM_s_not z v) = RM_minutes z := rfl
theorem RM_minutes_s_minutes (z : RM) (v : (Nat → Int32)) : RM_minutes (RM_s_minutes z v) = v := rfl
theorem RM_minutes_s_movedAll (z : RM) (v : Int32) : RM_minutes (RM_s_movedAll z v) = RM_minutes z := rfl
theorem RM_minutes_s_seed (z : RM) (v : Int32) : RM_minutes (RM_s_seed z v) = RM_minutes z := rfl
theorem RM_minutes_s_at (z : RM) (v : Int32) : RM_minutes (RM_s_at z v) = RM_minutes z := rfl
theorem RM_minutes_s_token (z : RM) (v : Int32) : RM_minutes (RM_s_token z v) = RM_minutes z := rfl
theorem RM_minutes_s_from (z : RM) (v : Int32) : RM_minutes (RM_s_from z v) = RM_minutes z := rfl
theorem RM_minutes_s_figures (z : RM) (v : Int32) : RM_minutes (RM_s_figures z v) = RM_minutes z := rfl
theorem RM_minutes_s_fault (z : RM) (v : Int32) : RM_minutes (RM_s_fault z v) = RM_minutes z := rfl
theorem RM_minutes_s_told (z : RM) (v : (Nat → Int32)) : RM_minutes (RM_s_told z v) = RM_minutes z := rfl
theorem RM_minutes_s_statements (z : RM) (v : Int32) : RM_minutes (RM_s_statements z v) = RM_minutes z := rfl
theorem RM_minutes_s_far (z : RM) (v : (Nat → Int32)) : RM_minutes (RM_s_far z v) = RM_minutes z := rfl
theorem RM_minutes_s_queue (z : RM) (v : (Nat → Int32)) : RM_minutes (RM_s_queue z v) = RM_minutes z := rfl
theorem RM_minutes_s_queued (z : RM) (v : Int32) : RM_minutes (RM_s_queued z v) = RM_minutes z := rfl
theorem RM_minutes_s_parts1 (z : RM) (v : (Nat → Int32)) : RM_minutes (RM_s_parts1 z v) = RM_minutes z := rfl
theorem RM_minutes_s_parts2 (z : RM) (v : (Nat → Int32)) : RM_minutes (RM_s_parts2 z v) = RM_minutes z := rfl
theorem RM_minutes_s_picturesSum (z : RM) (v : Int32) : RM_minutes (RM_s_picturesSum z v) = RM_minutes z := rfl
theorem RM_minutes_s_behindAll (z : RM) (v : Int32) : RM_minutes (RM_s_behindAll z v) = RM_minutes z := rfl
theorem RM_minutes_s_pl (z : RM) (v : Nat) : RM_minutes (RM_s_pl z v) = RM_minutes z := rfl
theorem RM_movedAll_s_shelf (z : RM) (v : (Nat → Int32)) : RM_movedAll (RM_s_shelf z v) = RM_movedAll z := rfl
theorem RM_movedAll_s_rowSort (z : RM) (v : (Nat → Int32)) : RM_movedAll (RM_s_rowSort z v) = RM_movedAll z := rfl
theorem RM_movedAll_s_rowSize (z : RM) (v : (Nat → Int32)) : RM_movedAll (RM_s_rowSize z v) = RM_movedAll z := rfl
theorem RM_movedAll_s_rows (z : RM) (v : (Nat → Nat → Int64)) : RM_movedAll (RM_s_rows z v) = RM_movedAll z := rfl
theorem RM_movedAll_s_moved1 (z : RM) (v : (Nat → Int64)) : RM_movedAll (RM_s_moved1 z v) = RM_movedAll z := rfl
theorem RM_movedAll_s_shown (z : RM) (v : (Nat → Int32)) : RM_movedAll (RM_s_shown z v) = RM_movedAll z := rfl
theorem RM_movedAll_s_tape (z : RM) (v : (Nat → Int32)) : RM_movedAll (RM_s_tape z v) = RM_movedAll z := rfl
theorem RM_movedAll_s_tapeSize (z : RM) (v : Int32) : RM_movedAll (RM_s_tapeSize z v) = RM_movedAll z := rfl
theorem RM_movedAll_s_refused (z : RM) (v : (Nat → Int32)) : RM_movedAll (RM_s_refused z v) = RM_movedAll z := rfl
theorem RM_movedAll_s_bars (z : RM) (v : Int32) : RM_movedAll (RM_s_bars z v) = RM_movedAll z := rfl
theorem RM_movedAll_s_kind (z : RM) (v : (Nat → Int32)) : RM_movedAll (RM_s_kind z v) = RM_movedAll z := rfl
theorem RM_movedAll_s_size (z : RM) (v : (Nat → Int32)) : RM_movedAll (RM_s_size z v) = RM_movedAll z := rfl
theorem RM_movedAll_s_on (z : RM) (v : (Nat → Int32)) : RM_movedAll (RM_s_on z v) = RM_movedAll z := rfl
theorem RM_movedAll_s_stuck (z : RM) (v : (Nat → Int32)) : RM_movedAll (RM_s_stuck z v) = RM_movedAll z := rfl
theorem RM_movedAll_s_must (z : RM) (v : (Nat → Nat → Int32)) : RM_movedAll (RM_s_must z v) = RM_movedAll z := rfl
theorem RM_movedAll_s_not (z : RM) (v : (Nat → Nat → Int32)) : RM_movedAll (RM_s_not z v) = RM_movedAll z := rfl
theorem RM_movedAll_s_minutes (z : RM) (v : (Nat → Int32)) : RM_movedAll (RM_s_minutes z v) = RM_movedAll z := rfl
theorem RM_movedAll_s_movedAll (z : RM) (v : Int32) : RM_movedAll (RM_s_movedAll z v) = v := rfl
theorem RM_movedAll_s_seed (z : RM) (v : Int32) : RM_movedAll (RM_s_seed z v) = RM_movedAll z := rfl
theorem RM_movedAll_s_at (z : RM) (v : Int32) : RM_movedAll (RM_s_at z v) = RM_movedAll z := rfl
theorem RM_movedAll_s_token (z : RM) (v : Int32) : RM_movedAll (RM_s_token z v) = RM_movedAll z := rfl
theorem RM_movedAll_s_from (z : RM) (v : Int32) : RM_movedAll (RM_s_from z v) = RM_movedAll z := rfl
theorem RM_movedAll_s_figures (z : RM) (v : Int32) : RM_movedAll (RM_s_figures z v) = RM_movedAll z := rfl
theorem RM_movedAll_s_fault (z : RM) (v : Int32) : RM_movedAll (RM_s_fault z v) = RM_movedAll z := rfl
theorem RM_movedAll_s_told (z : RM) (v : (Nat → Int32)) : RM_movedAll (RM_s_told z v) = RM_movedAll z := rfl
theorem RM_movedAll_s_statements (z : RM) (v : Int32) : RM_movedAll (RM_s_statements z v) = RM_movedAll z := rfl
theorem RM_movedAll_s_far (z : RM) (v : (Nat → Int32)) : RM_movedAll (RM_s_far z v) = RM_movedAll z := rfl
theorem RM_movedAll_s_queue (z : RM) (v : (Nat → Int32)) : RM_movedAll (RM_s_queue z v) = RM_movedAll z := rfl
theorem RM_movedAll_s_queued (z : RM) (v : Int32) : RM_movedAll (RM_s_queued z v) = RM_movedAll z := rfl
theorem RM_movedAll_s_parts1 (z : RM) (v : (Nat → Int32)) : RM_movedAll (RM_s_parts1 z v) = RM_movedAll z := rfl
theorem RM_movedAll_s_parts2 (z : RM) (v : (Nat → Int32)) : RM_movedAll (RM_s_parts2 z v) = RM_movedAll z := rfl
theorem RM_movedAll_s_picturesSum (z : RM) (v : Int32) : RM_movedAll (RM_s_picturesSum z v) = RM_movedAll z := rfl
theorem RM_movedAll_s_behindAll (z : RM) (v : Int32) : RM_movedAll (RM_s_behindAll z v) = RM_movedAll z := rfl
theorem RM_movedAll_s_pl (z : RM) (v : Nat) : RM_movedAll (RM_s_pl z v) = RM_movedAll z := rfl
theorem RM_seed_s_shelf (z : RM) (v : (Nat → Int32)) : RM_seed (RM_s_shelf z v) = RM_seed z := rfl
theorem RM_seed_s_rowSort (z : RM) (v : (Nat → Int32)) : RM_seed (RM_s_rowSort z v) = RM_seed z := rfl
theorem RM_seed_s_rowSize (z : RM) (v : (Nat → Int32)) : RM_seed (RM_s_rowSize z v) = RM_seed z := rfl
theorem RM_seed_s_rows (z : RM) (v : (Nat → Nat → Int64)) : RM_seed (RM_s_rows z v) = RM_seed z := rfl
theorem RM_seed_s_moved1 (z : RM) (v : (Nat → Int64)) : RM_seed (RM_s_moved1 z v) = RM_seed z := rfl
theorem RM_seed_s_shown (z : RM) (v : (Nat → Int32)) : RM_seed (RM_s_shown z v) = RM_seed z := rfl
theorem RM_seed_s_tape (z : RM) (v : (Nat → Int32)) : RM_seed (RM_s_tape z v) = RM_seed z := rfl
theorem RM_seed_s_tapeSize (z : RM) (v : Int32) : RM_seed (RM_s_tapeSize z v) = RM_seed z := rfl
theorem RM_seed_s_refused (z : RM) (v : (Nat → Int32)) : RM_seed (RM_s_refused z v) = RM_seed z := rfl
theorem RM_seed_s_bars (z : RM) (v : Int32) : RM_seed (RM_s_bars z v) = RM_seed z := rfl
theorem RM_seed_s_kind (z : RM) (v : (Nat → Int32)) : RM_seed (RM_s_kind z v) = RM_seed z := rfl
theorem RM_seed_s_size (z : RM) (v : (Nat → Int32)) : RM_seed (RM_s_size z v) = RM_seed z := rfl
theorem RM_seed_s_on (z : RM) (v : (Nat → Int32)) : RM_seed (RM_s_on z v) = RM_seed z := rfl
theorem RM_seed_s_stuck (z : RM) (v : (Nat → Int32)) : RM_seed (RM_s_stuck z v) = RM_seed z := rfl
theorem RM_seed_s_must (z : RM) (v : (Nat → Nat → Int32)) : RM_seed (RM_s_must z v) = RM_seed z := rfl
theorem RM_seed_s_not (z : RM) (v : (Nat → Nat → Int32)) : RM_seed (RM_s_not z v) = RM_seed z := rfl
theorem RM_seed_s_minutes (z : RM) (v : (Nat → Int32)) : RM_seed (RM_s_minutes z v) = RM_seed z := rfl
theorem RM_seed_s_movedAll (z : RM) (v : Int32) : RM_seed (RM_s_movedAll z v) = RM_seed z := rfl
theorem RM_seed_s_seed (z : RM) (v : Int32) : RM_seed (RM_s_seed z v) = v := rfl
theorem RM_seed_s_at (z : RM) (v : Int32) : RM_seed (RM_s_at z v) = RM_seed z := rfl
theorem RM_seed_s_token (z : RM) (v : Int32) : RM_seed (RM_s_token z v) = RM_seed z := rfl
theorem RM_seed_s_from (z : RM) (v : Int32) : RM_seed (RM_s_from z v) = RM_seed z := rfl
theorem RM_seed_s_figures (z : RM) (v : Int32) : RM_seed (RM_s_figures z v) = RM_seed z := rfl
theorem RM_seed_s_fault (z : RM) (v : Int32) : RM_seed (RM_s_fault z v) = RM_seed z := rfl
theorem RM_seed_s_told (z : RM) (v : (Nat → Int32)) : RM_seed (RM_s_told z v) = RM_seed z := rfl
theorem RM_seed_s_statements (z : RM) (v : Int32) : RM_seed (RM_s_statements z v) = RM_seed z := rfl
theorem RM_seed_s_far (z : RM) (v : (Nat → Int32)) : RM_seed (RM_s_far z v) = RM_seed z := rfl
theorem RM_seed_s_queue (z : RM) (v : (Nat → Int32)) : RM_seed (RM_s_queue z v) = RM_seed z := rfl
theorem RM_seed_s_queued (z : RM) (v : Int32) : RM_seed (RM_s_queued z v) = RM_seed z := rfl
theorem RM_seed_s_parts1 (z : RM) (v : (Nat → Int32)) : RM_seed (RM_s_parts1 z v) = RM_seed z := rfl
theorem RM_seed_s_parts2 (z : RM) (v : (Nat → Int32)) : RM_seed (RM_s_parts2 z v) = RM_seed z := rfl
theorem RM_seed_s_picturesSum (z : RM) (v : Int32) : RM_seed (RM_s_picturesSum z v) = RM_seed z := rfl
theorem RM_seed_s_behindAll (z : RM) (v : Int32) : RM_seed (RM_s_behindAll z v) = RM_seed z := rfl
theorem RM_seed_s_pl (z : RM) (v : Nat) : RM_seed (RM_s_pl z v) = RM_seed z := rfl
theorem RM_at_s_shelf (z : RM) (v : (Nat → Int32)) : RM_at (RM_s_shelf z v) = RM_at z := rfl
theorem RM_at_s_rowSort (z : RM) (v : (Nat → Int32)) : RM_at (RM_s_rowSort z v) = RM_at z := rfl
theorem RM_at_s_rowSize (z : RM) (v : (Nat → Int32)) : RM_at (RM_s_rowSize z v) = RM_at z := rfl
theorem RM_at_s_rows (z : RM) (v : (Nat → Nat → Int64)) : RM_at (RM_s_rows z v) = RM_at z := rfl
theorem RM_at_s_moved1 (z : RM) (v : (Nat → Int64)) : RM_at (RM_s_moved1 z v) = RM_at z := rfl
theorem RM_at_s_shown (z : RM) (v : (Nat → Int32)) : RM_at (RM_s_shown z v) = RM_at z := rfl
theorem RM_at_s_tape (z : RM) (v : (Nat → Int32)) : RM_at (RM_s_tape z v) = RM_at z := rfl
theorem RM_at_s_tapeSize (z : RM) (v : Int32) : RM_at (RM_s_tapeSize z v) = RM_at z := rfl
theorem RM_at_s_refused (z : RM) (v : (Nat → Int32)) : RM_at (RM_s_refused z v) = RM_at z := rfl
theorem RM_at_s_bars (z : RM) (v : Int32) : RM_at (RM_s_bars z v) = RM_at z := rfl
theorem RM_at_s_kind (z : RM) (v : (Nat → Int32)) : RM_at (RM_s_kind z v) = RM_at z := rfl
theorem RM_at_s_size (z : RM) (v : (Nat → Int32)) : RM_at (RM_s_size z v) = RM_at z := rfl
theorem RM_at_s_on (z : RM) (v : (Nat → Int32)) : RM_at (RM_s_on z v) = RM_at z := rfl
theorem RM_at_s_stuck (z : RM) (v : (Nat → Int32)) : RM_at (RM_s_stuck z v) = RM_at z := rfl
theorem RM_at_s_must (z : RM) (v : (Nat → Nat → Int32)) : RM_at (RM_s_must z v) = RM_at z := rfl
theorem RM_at_s_not (z : RM) (v : (Nat → Nat → Int32)) : RM_at (RM_s_not z v) = RM_at z := rfl
theorem RM_at_s_minutes (z : RM) (v : (Nat → Int32)) : RM_at (RM_s_minutes z v) = RM_at z := rfl
theorem RM_at_s_movedAll (z : RM) (v : Int32) : RM_at (RM_s_movedAll z v) = RM_at z := rfl
theorem RM_at_s_seed (z : RM) (v : Int32) : RM_at (RM_s_seed z v) = RM_at z := rfl
theorem RM_at_s_at (z : RM) (v : Int32) : RM_at (RM_s_at z v) = v := rfl
theorem RM_at_s_token (z : RM) (v : Int32) : RM_at (RM_s_token z v) = RM_at z := rfl
theorem RM_at_s_from (z : RM) (v : Int32) : RM_at (RM_s_from z v) = RM_at z := rfl
theorem RM_at_s_figures (z : RM) (v : Int32) : RM_at (RM_s_figures z v) = RM_at z := rfl
theorem RM_at_s_fault (z : RM) (v : Int32) : RM_at (RM_s_fault z v) = RM_at z := rfl
theorem RM_at_s_told (z : RM) (v : (Nat → Int32)) : RM_at (RM_s_told z v) = RM_at z := rfl
theorem RM_at_s_statements (z : RM) (v : Int32) : RM_at (RM_s_statements z v) = RM_at z := rfl
theorem RM_at_s_far (z : RM) (v : (Nat → Int32)) : RM_at (RM_s_far z v) = RM_at z := rfl
theorem RM_at_s_queue (z : RM) (v : (Nat → Int32)) : RM_at (RM_s_queue z v) = RM_at z := rfl
theorem RM_at_s_queued (z : RM) (v : Int32) : RM_at (RM_s_queued z v) = RM_at z := rfl
theorem RM_at_s_parts1 (z : RM) (v : (Nat → Int32)) : RM_at (RM_s_parts1 z v) = RM_at z := rfl
theorem RM_at_s_parts2 (z : RM) (v : (Nat → Int32)) : RM_at (RM_s_parts2 z v) = RM_at z := rfl
theorem RM_at_s_picturesSum (z : RM) (v : Int32) : RM_at (RM_s_picturesSum z v) = RM_at z := rfl
theorem RM_at_s_behindAll (z : RM) (v : Int32) : RM_at (RM_s_behindAll z v) = RM_at z := rfl
theorem RM_at_s_pl (z : RM) (v : Nat) : RM_at (RM_s_pl z v) = RM_at z := rfl
theorem RM_token_s_shelf (z : RM) (v : (Nat → Int32)) : RM_token (RM_s_shelf z v) = RM_token z := rfl
theorem RM_token_s_rowSort (z : RM) (v : (Nat → Int32)) : RM_token (RM_s_rowSort z v) = RM_token z := rfl
theorem RM_token_s_rowSize (z : RM) (v : (Nat → Int32)) : RM_token (RM_s_rowSize z v) = RM_token z := rfl
theorem RM_token_s_rows (z : RM) (v : (Nat → Nat → Int64)) : RM_token (RM_s_rows z v) = RM_token z := rfl
theorem RM_token_s_moved1 (z : RM) (v : (Nat → Int64)) : RM_token (RM_s_moved1 z v) = RM_token z := rfl
theorem RM_token_s_shown (z : RM) (v : (Nat → Int32)) : RM_token (RM_s_shown z v) = RM_token z := rfl
theorem RM_token_s_tape (z : RM) (v : (Nat → Int32)) : RM_token (RM_s_tape z v) = RM_token z := rfl
theorem RM_token_s_tapeSize (z : RM) (v : Int32) : RM_token (RM_s_tapeSize z v) = RM_token z := rfl
theorem RM_token_s_refused (z : RM) (v : (Nat → Int32)) : RM_token (RM_s_refused z v) = RM_token z := rfl
theorem RM_token_s_bars (z : RM) (v : Int32) : RM_token (RM_s_bars z v) = RM_token z := rfl
theorem RM_token_s_kind (z : RM) (v : (Nat → Int32)) : RM_token (RM_s_kind z v) = RM_token z := rfl
theorem RM_token_s_size (z : RM) (v : (Nat → Int32)) : RM_token (RM_s_size z v) = RM_token z := rfl
theorem RM_token_s_on (z : RM) (v : (Nat → Int32)) : RM_token (RM_s_on z v) = RM_token z := rfl
theorem RM_token_s_stuck (z : RM) (v : (Nat → Int32)) : RM_token (RM_s_stuck z v) = RM_token z := rfl
theorem RM_token_s_must (z : RM) (v : (Nat → Nat → Int32)) : RM_token (RM_s_must z v) = RM_token z := rfl
theorem RM_token_s_not (z : RM) (v : (Nat → Nat → Int32)) : RM_token (RM_s_not z v) = RM_token z := rfl
theorem RM_token_s_minutes (z : RM) (v : (Nat → Int32)) : RM_token (RM_s_minutes z v) = RM_token z := rfl
theorem RM_token_s_movedAll (z : RM) (v : Int32) : RM_token (RM_s_movedAll z v) = RM_token z := rfl
theorem RM_token_s_seed (z : RM) (v : Int32) : RM_token (RM_s_seed z v) = RM_token z := rfl
theorem RM_token_s_at (z : RM) (v : Int32) : RM_token (RM_s_at z v) = RM_token z := rfl
theorem RM_token_s_token (z : RM) (v : Int32) : RM_token (RM_s_token z v) = v := rfl
theorem RM_token_s_from (z : RM) (v : Int32) : RM_token (RM_s_from z v) = RM_token z := rfl
theorem RM_token_s_figures (z : RM) (v : Int32) : RM_token (RM_s_figures z v) = RM_token z := rfl
theorem RM_token_s_fault (z : RM) (v : Int32) : RM_token (RM_s_fault z v) = RM_token z := rfl
theorem RM_token_s_told (z : RM) (v : (Nat → Int32)) : RM_token (RM_s_told z v) = RM_token z := rfl
theorem RM_token_s_statements (z : RM) (v : Int32) : RM_token (RM_s_statements z v) = RM_token z := rfl
theorem RM_token_s_far (z : RM) (v : (Nat → Int32)) : RM_token (RM_s_far z v) = RM_token z := rfl
theorem RM_token_s_queue (z : RM) (v : (Nat → Int32)) : RM_token (RM_s_queue z v) = RM_token z := rfl
theorem RM_token_s_queued (z : RM) (v : Int32) : RM_token (RM_s_queued z v) = RM_token z := rfl
theorem RM_token_s_parts1 (z : RM) (v : (Nat → Int32)) : RM_token (RM_s_parts1 z v) = RM_token z := rfl
theorem RM_token_s_parts2 (z : RM) (v : (Nat → Int32)) : RM_token (RM_s_parts2 z v) = RM_token z := rfl
theorem RM_token_s_picturesSum (z : RM) (v : Int32) : RM_token (RM_s_picturesSum z v) = RM_token z := rfl
theorem RM_token_s_behindAll (z : RM) (v : Int32) : RM_token (RM_s_behindAll z v) = RM_token z := rfl
theorem RM_token_s_pl (z : RM) (v : Nat) : RM_token (RM_s_pl z v) = RM_token z := rfl
theorem RM_from_s_shelf (z : RM) (v : (Nat → Int32)) : RM_from (RM_s_shelf z v) = RM_from z := rfl
theorem RM_from_s_rowSort (z : RM) (v : (Nat → Int32)) : RM_from (RM_s_rowSort z v) = RM_from z := rfl
theorem RM_from_s_rowSize (z : RM) (v : (Nat → Int32)) : RM_from (RM_s_rowSize z v) = RM_from z := rfl
theorem RM_from_s_rows (z : RM) (v : (Nat → Nat → Int64)) : RM_from (RM_s_rows z v) = RM_from z := rfl
theorem RM_from_s_moved1 (z : RM) (v : (Nat → Int64)) : RM_from (RM_s_moved1 z v) = RM_from z := rfl
theorem RM_from_s_shown (z : RM) (v : (Nat → Int32)) : RM_from (RM_s_shown z v) = RM_from z := rfl
theorem RM_from_s_tape (z : RM) (v : (Nat → Int32)) : RM_from (RM_s_tape z v) = RM_from z := rfl
theorem RM_from_s_tapeSize (z : RM) (v : Int32) : RM_from (RM_s_tapeSize z v) = RM_from z := rfl
theorem RM_from_s_refused (z : RM) (v : (Nat → Int32)) : RM_from (RM_s_refused z v) = RM_from z := rfl
theorem RM_from_s_bars (z : RM) (v : Int32) : RM_from (RM_s_bars z v) = RM_from z := rfl
theorem RM_from_s_kind (z : RM) (v : (Nat → Int32)) : RM_from (RM_s_kind z v) = RM_from z := rfl
theorem RM_from_s_size (z : RM) (v : (Nat → Int32)) : RM_from (RM_s_size z v) = RM_from z := rfl
theorem RM_from_s_on (z : RM) (v : (Nat → Int32)) : RM_from (RM_s_on z v) = RM_from z := rfl
theorem RM_from_s_stuck (z : RM) (v : (Nat → Int32)) : RM_from (RM_s_stuck z v) = RM_from z := rfl
theorem RM_from_s_must (z : RM) (v : (Nat → Nat → Int32)) : RM_from (RM_s_must z v) = RM_from z := rfl
theorem RM_from_s_not (z : RM) (v : (Nat → Nat → Int32)) : RM_from (RM_s_not z v) = RM_from z := rfl
theorem RM_from_s_minutes (z : RM) (v : (Nat → Int32)) : RM_from (RM_s_minutes z v) = RM_from z := rfl
theorem RM_from_s_movedAll (z : RM) (v : Int32) : RM_from (RM_s_movedAll z v) = RM_from z := rfl
theorem RM_from_s_seed (z : RM) (v : Int32) : RM_from (RM_s_seed z v) = RM_from z := rfl
theorem RM_from_s_at (z : RM) (v : Int32) : RM_from (RM_s_at z v) = RM_from z := rfl
theorem RM_from_s_token (z : RM) (v : Int32) : RM_from (RM_s_token z v) = RM_from z := rfl
theorem RM_from_s_from (z : RM) (v : Int32) : RM_from (RM_s_from z v) = v := rfl
theorem RM_from_s_figures (z : RM) (v : Int32) : RM_from (RM_s_figures z v) = RM_from z := rfl
theorem RM_from_s_fault (z : RM) (v : Int32) : RM_from (RM_s_fault z v) = RM_from z := rfl
theorem RM_from_s_told (z : RM) (v : (Nat → Int32)) : RM_from (RM_s_told z v) = RM_from z := rfl
theorem RM_from_s_statements (z : RM) (v : Int32) : RM_from (RM_s_statements z v) = RM_from z := rfl
theorem RM_from_s_far (z : RM) (v : (Nat → Int32)) : RM_from (RM_s_far z v) = RM_from z := rfl
theorem RM_from_s_queue (z : RM) (v : (Nat → Int32)) : RM_from (RM_s_queue z v) = RM_from z := rfl
theorem RM_from_s_queued (z : RM) (v : Int32) : RM_from (RM_s_queued z v) = RM_from z := rfl
theorem RM_from_s_parts1 (z : RM) (v : (Nat → Int32)) : RM_from (RM_s_parts1 z v) = RM_from z := rfl
theorem RM_from_s_parts2 (z : RM) (v : (Nat → Int32)) : RM_from (RM_s_parts2 z v) = RM_from z := rfl
theorem RM_from_s_picturesSum (z : RM) (v : Int32) : RM_from (RM_s_picturesSum z v) = RM_from z := rfl
theorem RM_from_s_behindAll (z : RM) (v : Int32) : RM_from (RM_s_behindAll z v) = RM_from z := rfl
theorem RM_from_s_pl (z : RM) (v : Nat) : RM_from (RM_s_pl z v) = RM_from z := rfl
theorem RM_figures_s_shelf (z : RM) (v : (Nat → Int32)) : RM_figures (RM_s_shelf z v) = RM_figures z := rfl
theorem RM_figures_s_rowSort (z : RM) (v : (Nat → Int32)) : RM_figures (RM_s_rowSort z v) = RM_figures z := rfl
theorem RM_figures_s_rowSize (z : RM) (v : (Nat → Int32)) : RM_figures (RM_s_rowSize z v) = RM_figures z := rfl
theorem RM_figures_s_rows (z : RM) (v : (Nat → Nat → Int64)) : RM_figures (RM_s_rows z v) = RM_figures z := rfl
theorem RM_figures_s_moved1 (z : RM) (v : (Nat → Int64)) : RM_figures (RM_s_moved1 z v) = RM_figures z := rfl
theorem RM_figures_s_shown (z : RM) (v : (Nat → Int32)) : RM_figures (RM_s_shown z v) = RM_figures z := rfl
theorem RM_figures_s_tape (z : RM) (v : (Nat → Int32)) : RM_figures (RM_s_tape z v) = RM_figures z := rfl
theorem RM_figures_s_tapeSize (z : RM) (v : Int32) : RM_figures (RM_s_tapeSize z v) = RM_figures z := rfl
theorem RM_figures_s_refused (z : RM) (v : (Nat → Int32)) : RM_figures (RM_s_refused z v) = RM_figures z := rfl
theorem RM_figures_s_bars (z : RM) (v : Int32) : RM_figures (RM_s_bars z v) = RM_figures z := rfl
theorem RM_figures_s_kind (z : RM) (v : (Nat → Int32)) : RM_figures (RM_s_kind z v) = RM_figures z := rfl
theorem RM_figures_s_size (z : RM) (v : (Nat → Int32)) : RM_figures (RM_s_size z v) = RM_figures z := rfl
theorem RM_figures_s_on (z : RM) (v : (Nat → Int32)) : RM_figures (RM_s_on z v) = RM_figures z := rfl
theorem RM_figures_s_stuck (z : RM) (v : (Nat → Int32)) : RM_figures (RM_s_stuck z v) = RM_figures z := rfl
theorem RM_figures_s_must (z : RM) (v : (Nat → Nat → Int32)) : RM_figures (RM_s_must z v) = RM_figures z := rfl
theorem RM_figures_s_not (z : RM) (v : (Nat → Nat → Int32)) : RM_figures (RM_s_not z v) = RM_figures z := rfl
theorem RM_figures_s_minutes (z : RM) (v : (Nat → Int32)) : RM_figures (RM_s_minutes z v) = RM_figures z := rfl
theorem RM_figures_s_movedAll (z : RM) (v : Int32) : RM_figures (RM_s_movedAll z v) = RM_figures z := rfl
theorem RM_figures_s_seed (z : RM) (v : Int32) : RM_figures (RM_s_seed z v) = RM_figures z := rfl
theorem RM_figures_s_at (z : RM) (v : Int32) : RM_figures (RM_s_at z v) = RM_figures z := rfl
theorem RM_figures_s_token (z : RM) (v : Int32) : RM_figures (RM_s_token z v) = RM_figures z := rfl
theorem RM_figures_s_from (z : RM) (v : Int32) : RM_figures (RM_s_from z v) = RM_figures z := rfl
theorem RM_figures_s_figures (z : RM) (v : Int32) : RM_figures (RM_s_figures z v) = v := rfl
theorem RM_figures_s_fault (z : RM) (v : Int32) : RM_figures (RM_s_fault z v) = RM_figures z := rfl
theorem RM_figures_s_told (z : RM) (v : (Nat → Int32)) : RM_figures (RM_s_told z v) = RM_figures z := rfl
theorem RM_figures_s_statements (z : RM) (v : Int32) : RM_figures (RM_s_statements z v) = RM_figures z := rfl
theorem RM_figures_s_far (z : RM) (v : (Nat → Int32)) : RM_figures (RM_s_far z v) = RM_figures z := rfl
theorem RM_figures_s_queue (z : RM) (v : (Nat → Int32)) : RM_figures (RM_s_queue z v) = RM_figures z := rfl
theorem RM_figures_s_queued (z : RM) (v : Int32) : RM_figures (RM_s_queued z v) = RM_figures z := rfl
theorem RM_figures_s_parts1 (z : RM) (v : (Nat → Int32)) : RM_figures (RM_s_parts1 z v) = RM_figures z := rfl
theorem RM_figures_s_parts2 (z : RM) (v : (Nat → Int32)) : RM_figures (RM_s_parts2 z v) = RM_figures z := rfl
theorem RM_figures_s_picturesSum (z : RM) (v : Int32) : RM_figures (RM_s_picturesSum z v) = RM_figures z := rfl
theorem RM_figures_s_behindAll (z : RM) (v : Int32) : RM_figures (RM_s_behindAll z v) = RM_figures z := rfl
theorem RM_figures_s_pl (z : RM) (v : Nat) : RM_figures (RM_s_pl z v) = RM_figures z := rfl
theorem RM_fault_s_shelf (z : RM) (v : (Nat → Int32)) : RM_fault (RM_s_shelf z v) = RM_fault z := rfl
theorem RM_fault_s_rowSort (z : RM) (v : (Nat → Int32)) : RM_fault (RM_s_rowSort z v) = RM_fault z := rfl
theorem RM_fault_s_rowSize (z : RM) (v : (Nat → Int32)) : RM_fault (RM_s_rowSize z v) = RM_fault z := rfl
theorem RM_fault_s_rows (z : RM) (v : (Nat → Nat → Int64)) : RM_fault (RM_s_rows z v) = RM_fault z := rfl
theorem RM_fault_s_moved1 (z : RM) (v : (Nat → Int64)) : RM_fault (RM_s_moved1 z v) = RM_fault z := rfl
theorem RM_fault_s_shown (z : RM) (v : (Nat → Int32)) : RM_fault (RM_s_shown z v) = RM_fault z := rfl
theorem RM_fault_s_tape (z : RM) (v : (Nat → Int32)) : RM_fault (RM_s_tape z v) = RM_fault z := rfl
theorem RM_fault_s_tapeSize (z : RM) (v : Int32) : RM_fault (RM_s_tapeSize z v) = RM_fault z := rfl
theorem RM_fault_s_refused (z : RM) (v : (Nat → Int32)) : RM_fault (RM_s_refused z v) = RM_fault z := rfl
theorem RM_fault_s_bars (z : RM) (v : Int32) : RM_fault (RM_s_bars z v) = RM_fault z := rfl
theorem RM_fault_s_kind (z : RM) (v : (Nat → Int32)) : RM_fault (RM_s_kind z v) = RM_fault z := rfl
theorem RM_fault_s_size (z : RM) (v : (Nat → Int32)) : RM_fault (RM_s_size z v) = RM_fault z := rfl
theorem RM_fault_s_on (z : RM) (v : (Nat → Int32)) : RM_fault (RM_s_on z v) = RM_fault z := rfl
theorem RM_fault_s_stuck (z : RM) (v : (Nat → Int32)) : RM_fault (RM_s_stuck z v) = RM_fault z := rfl
theorem RM_fault_s_must (z : RM) (v : (Nat → Nat → Int32)) : RM_fault (RM_s_must z v) = RM_fault z := rfl
theorem RM_fault_s_not (z : RM) (v : (Nat → Nat → Int32)) : RM_fault (RM_s_not z v) = RM_fault z := rfl
theorem RM_fault_s_minutes (z : RM) (v : (Nat → Int32)) : RM_fault (RM_s_minutes z v) = RM_fault z := rfl
theorem RM_fault_s_movedAll (z : RM) (v : Int32) : RM_fault (RM_s_movedAll z v) = RM_fault z := rfl
theorem RM_fault_s_seed (z : RM) (v : Int32) : RM_fault (RM_s_seed z v) = RM_fault z := rfl
theorem RM_fault_s_at (z : RM) (v : Int32) : RM_fault (RM_s_at z v) = RM_fault z := rfl
theorem RM_fault_s_token (z : RM) (v : Int32) : RM_fault (RM_s_token z v) = RM_fault z := rfl
theorem RM_fault_s_from (z : RM) (v : Int32) : RM_fault (RM_s_from z v) = RM_fault z := rfl
theorem RM_fault_s_figures (z : RM) (v : Int32) : RM_fault (RM_s_figures z v) = RM_fault z := rfl
theorem RM_fault_s_fault (z : RM) (v : Int32) : RM_fault (RM_s_fault z v) = v := rfl
theorem RM_fault_s_told (z : RM) (v : (Nat → Int32)) : RM_fault (RM_s_told z v) = RM_fault z := rfl
theorem RM_fault_s_statements (z : RM) (v : Int32) : RM_fault (RM_s_statements z v) = RM_fault z := rfl
theorem RM_fault_s_far (z : RM) (v : (Nat → Int32)) : RM_fault (RM_s_far z v) = RM_fault z := rfl
theorem RM_fault_s_queue (z : RM) (v : (Nat → Int32)) : RM_fault (RM_s_queue z v) = RM_fault z := rfl
theorem RM_fault_s_queued (z : RM) (v : Int32) : RM_fault (RM_s_queued z v) = RM_fault z := rfl
theorem RM_fault_s_parts1 (z : RM) (v : (Nat → Int32)) : RM_fault (RM_s_parts1 z v) = RM_fault z := rfl
theorem RM_fault_s_parts2 (z : RM) (v : (Nat → Int32)) : RM_fault (RM_s_parts2 z v) = RM_fault z := rfl
theorem RM_fault_s_picturesSum (z : RM) (v : Int32) : RM_fault (RM_s_picturesSum z v) = RM_fault z := rfl
theorem RM_fault_s_behindAll (z : RM) (v : Int32) : RM_fault (RM_s_behindAll z v) = RM_fault z := rfl
theorem RM_fault_s_pl (z : RM) (v : Nat) : RM_fault (RM_s_pl z v) = RM_fault z := rfl
theorem RM_told_s_shelf (z : RM) (v : (Nat → Int32)) : RM_told (RM_s_shelf z v) = RM_told z := rfl
theorem RM_told_s_rowSort (z : RM) (v : (Nat → Int32)) : RM_told (RM_s_rowSort z v) = RM_told z := rfl
theorem RM_told_s_rowSize (z : RM) (v : (Nat → Int32)) : RM_told (RM_s_rowSize z v) = RM_told z := rfl
theorem RM_told_s_rows (z : RM) (v : (Nat → Nat → Int64)) : RM_told (RM_s_rows z v) = RM_told z := rfl
theorem RM_told_s_moved1 (z : RM) (v : (Nat → Int64)) : RM_told (RM_s_moved1 z v) = RM_told z := rfl
theorem RM_told_s_shown (z : RM) (v : (Nat → Int32)) : RM_told (RM_s_shown z v) = RM_told z := rfl
theorem RM_told_s_tape (z : RM) (v : (Nat → Int32)) : RM_told (RM_s_tape z v) = RM_told z := rfl
theorem RM_told_s_tapeSize (z : RM) (v : Int32) : RM_told (RM_s_tapeSize z v) = RM_told z := rfl
theorem RM_told_s_refused (z : RM) (v : (Nat → Int32)) : RM_told (RM_s_refused z v) = RM_told z := rfl
theorem RM_told_s_bars (z : RM) (v : Int32) : RM_told (RM_s_bars z v) = RM_told z := rfl
theorem RM_told_s_kind (z : RM) (v : (Nat → Int32)) : RM_told (RM_s_kind z v) = RM_told z := rfl
theorem RM_told_s_size (z : RM) (v : (Nat → Int32)) : RM_told (RM_s_size z v) = RM_told z := rfl
theorem RM_told_s_on (z : RM) (v : (Nat → Int32)) : RM_told (RM_s_on z v) = RM_told z := rfl
theorem RM_told_s_stuck (z : RM) (v : (Nat → Int32)) : RM_told (RM_s_stuck z v) = RM_told z := rfl
theorem RM_told_s_must (z : RM) (v : (Nat → Nat → Int32)) : RM_told (RM_s_must z v) = RM_told z := rfl
theorem RM_told_s_not (z : RM) (v : (Nat → Nat → Int32)) : RM_told (RM_s_not z v) = RM_told z := rfl
theorem RM_told_s_minutes (z : RM) (v : (Nat → Int32)) : RM_told (RM_s_minutes z v) = RM_told z := rfl
theorem RM_told_s_movedAll (z : RM) (v : Int32) : RM_told (RM_s_movedAll z v) = RM_told z := rfl
theorem RM_told_s_seed (z : RM) (v : Int32) : RM_told (RM_s_seed z v) = RM_told z := rfl
theorem RM_told_s_at (z : RM) (v : Int32) : RM_told (RM_s_at z v) = RM_told z := rfl
theorem RM_told_s_token (z : RM) (v : Int32) : RM_told (RM_s_token z v) = RM_told z := rfl
theorem RM_told_s_from (z : RM) (v : Int32) : RM_told (RM_s_from z v) = RM_told z := rfl
theorem RM_told_s_figures (z : RM) (v : Int32) : RM_told (RM_s_figures z v) = RM_told z := rfl
theorem RM_told_s_fault (z : RM) (v : Int32) : RM_told (RM_s_fault z v) = RM_told z := rfl
theorem RM_told_s_told (z : RM) (v : (Nat → Int32)) : RM_told (RM_s_told z v) = v := rfl
theorem RM_told_s_statements (z : RM) (v : Int32) : RM_told (RM_s_statements z v) = RM_told z := rfl
theorem RM_told_s_far (z : RM) (v : (Nat → Int32)) : RM_told (RM_s_far z v) = RM_told z := rfl
theorem RM_told_s_queue (z : RM) (v : (Nat → Int32)) : RM_told (RM_s_queue z v) = RM_told z := rfl
theorem RM_told_s_queued (z : RM) (v : Int32) : RM_told (RM_s_queued z v) = RM_told z := rfl
theorem RM_told_s_parts1 (z : RM) (v : (Nat → Int32)) : RM_told (RM_s_parts1 z v) = RM_told z := rfl
theorem RM_told_s_parts2 (z : RM) (v : (Nat → Int32)) : RM_told (RM_s_parts2 z v) = RM_told z := rfl
theorem RM_told_s_picturesSum (z : RM) (v : Int32) : RM_told (RM_s_picturesSum z v) = RM_told z := rfl
theorem RM_told_s_behindAll (z : RM) (v : Int32) : RM_told (RM_s_behindAll z v) = RM_told z := rfl
theorem RM_told_s_pl (z : RM) (v : Nat) : RM_told (RM_s_pl z v) = RM_told z := rfl
theorem RM_statements_s_shelf (z : RM) (v : (Nat → Int32)) : RM_statements (RM_s_shelf z v) = RM_statements z := rfl
theorem RM_statements_s_rowSort (z : RM) (v : (Nat → Int32)) : RM_statements (RM_s_rowSort z v) = RM_statements z := rfl
theorem RM_statements_s_rowSize (z : RM) (v : (Nat → Int32)) : RM_statements (RM_s_rowSize z v) = RM_statements z := rfl
theorem RM_statements_s_rows (z : RM) (v : (Nat → Nat → Int64)) : RM_statements (RM_s_rows z v) = RM_statements z := rfl
theorem RM_statements_s_moved1 (z : RM) (v : (Nat → Int64)) : RM_statements (RM_s_moved1 z v) = RM_statements z := rfl
theorem RM_statements_s_shown (z : RM) (v : (Nat → Int32)) : RM_statements (RM_s_shown z v) = RM_statements z := rfl
theorem RM_statements_s_tape (z : RM) (v : (Nat → Int32)) : RM_statements (RM_s_tape z v) = RM_statements z := rfl
theorem RM_statements_s_tapeSize (z : RM) (v : Int32) : RM_statements (RM_s_tapeSize z v) = RM_statements z := rfl
theorem RM_statements_s_refused (z : RM) (v : (Nat → Int32)) : RM_statements (RM_s_refused z v) = RM_statements z := rfl
theorem RM_statements_s_bars (z : RM) (v : Int32) : RM_statements (RM_s_bars z v) = RM_statements z := rfl
theorem RM_statements_s_kind (z : RM) (v : (Nat → Int32)) : RM_statements (RM_s_kind z v) = RM_statements z := rfl
theorem RM_statements_s_size (z : RM) (v : (Nat → Int32)) : RM_statements (RM_s_size z v) = RM_statements z := rfl
theorem RM_statements_s_on (z : RM) (v : (Nat → Int32)) : RM_statements (RM_s_on z v) = RM_statements z := rfl
theorem RM_statements_s_stuck (z : RM) (v : (Nat → Int32)) : RM_statements (RM_s_stuck z v) = RM_statements z := rfl
theorem RM_statements_s_must (z : RM) (v : (Nat → Nat → Int32)) : RM_statements (RM_s_must z v) = RM_statements z := rfl
theorem RM_statements_s_not (z : RM) (v : (Nat → Nat → Int32)) : RM_statements (RM_s_not z v) = RM_statements z := rfl
theorem RM_statements_s_minutes (z : RM) (v : (Nat → Int32)) : RM_statements (RM_s_minutes z v) = RM_statements z := rfl
theorem RM_statements_s_movedAll (z : RM) (v : Int32) : RM_statements (RM_s_movedAll z v) = RM_statements z := rfl
theorem RM_statements_s_seed (z : RM) (v : Int32) : RM_statements (RM_s_seed z v) = RM_statements z := rfl
theorem RM_statements_s_at (z : RM) (v : Int32) : RM_statements (RM_s_at z v) = RM_statements z := rfl
theorem RM_statements_s_token (z : RM) (v : Int32) : RM_statements (RM_s_token z v) = RM_statements z := rfl
theorem RM_statements_s_from (z : RM) (v : Int32) : RM_statements (RM_s_from z v) = RM_statements z := rfl
theorem RM_statements_s_figures (z : RM) (v : Int32) : RM_statements (RM_s_figures z v) = RM_statements z := rfl
theorem RM_statements_s_fault (z : RM) (v : Int32) : RM_statements (RM_s_fault z v) = RM_statements z := rfl
theorem RM_statements_s_told (z : RM) (v : (Nat → Int32)) : RM_statements (RM_s_told z v) = RM_statements z := rfl
theorem RM_statements_s_statements (z : RM) (v : Int32) : RM_statements (RM_s_statements z v) = v := rfl
theorem RM_statements_s_far (z : RM) (v : (Nat → Int32)) : RM_statements (RM_s_far z v) = RM_statements z := rfl
theorem RM_statements_s_queue (z : RM) (v : (Nat → Int32)) : RM_statements (RM_s_queue z v) = RM_statements z := rfl
theorem RM_statements_s_queued (z : RM) (v : Int32) : RM_statements (RM_s_queued z v) = RM_statements z := rfl
theorem RM_statements_s_parts1 (z : RM) (v : (Nat → Int32)) : RM_statements (RM_s_parts1 z v) = RM_statements z := rfl
theorem RM_statements_s_parts2 (z : RM) (v : (Nat → Int32)) : RM_statements (RM_s_parts2 z v) = RM_statements z := rfl
theorem RM_statements_s_picturesSum (z : RM) (v : Int32) : RM_statements (RM_s_picturesSum z v) = RM_statements z := rfl
theorem RM_statements_s_behindAll (z : RM) (v : Int32) : RM_statements (RM_s_behindAll z v) = RM_statements z := rfl
theorem RM_statements_s_pl (z : RM) (v : Nat) : RM_statements (RM_s_pl z v) = RM_statements z := rfl
theorem RM_far_s_shelf (z : RM) (v : (Nat → Int32)) : RM_far (RM_s_shelf z v) = RM_far z := rfl
theorem RM_far_s_rowSort (z : RM) (v : (Nat → Int32)) : RM_far (RM_s_rowSort z v) = RM_far z := rfl
theorem RM_far_s_rowSize (z : RM) (v : (Nat → Int32)) : RM_far (RM_s_rowSize z v) = RM_far z := rfl
theorem RM_far_s_rows (z : RM) (v : (Nat → Nat → Int64)) : RM_far (RM_s_rows z v) = RM_far z := rfl
theorem RM_far_s_moved1 (z : RM) (v : (Nat → Int64)) : RM_far (RM_s_moved1 z v) = RM_far z := rfl
theorem RM_far_s_shown (z : RM) (v : (Nat → Int32)) : RM_far (RM_s_shown z v) = RM_far z := rfl
theorem RM_far_s_tape (z : RM) (v : (Nat → Int32)) : RM_far (RM_s_tape z v) = RM_far z := rfl
theorem RM_far_s_tapeSize (z : RM) (v : Int32) : RM_far (RM_s_tapeSize z v) = RM_far z := rfl
theorem RM_far_s_refused (z : RM) (v : (Nat → Int32)) : RM_far (RM_s_refused z v) = RM_far z := rfl
theorem RM_far_s_bars (z : RM) (v : Int32) : RM_far (RM_s_bars z v) = RM_far z := rfl
theorem RM_far_s_kind (z : RM) (v : (Nat → Int32)) : RM_far (RM_s_kind z v) = RM_far z := rfl
theorem RM_far_s_size (z : RM) (v : (Nat → Int32)) : RM_far (RM_s_size z v) = RM_far z := rfl
theorem RM_far_s_on (z : RM) (v : (Nat → Int32)) : RM_far (RM_s_on z v) = RM_far z := rfl
theorem RM_far_s_stuck (z : RM) (v : (Nat → Int32)) : RM_far (RM_s_stuck z v) = RM_far z := rfl
theorem RM_far_s_must (z : RM) (v : (Nat → Nat → Int32)) : RM_far (RM_s_must z v) = RM_far z := rfl
theorem RM_far_s_not (z : RM) (v : (Nat → Nat → Int32)) : RM_far (RM_s_not z v) = RM_far z := rfl
theorem RM_far_s_minutes (z : RM) (v : (Nat → Int32)) : RM_far (RM_s_minutes z v) = RM_far z := rfl
theorem RM_far_s_movedAll (z : RM) (v : Int32) : RM_far (RM_s_movedAll z v) = RM_far z := rfl
theorem RM_far_s_seed (z : RM) (v : Int32) : RM_far (RM_s_seed z v) = RM_far z := rfl
theorem RM_far_s_at (z : RM) (v : Int32) : RM_far (RM_s_at z v) = RM_far z := rfl
theorem RM_far_s_token (z : RM) (v : Int32) : RM_far (RM_s_token z v) = RM_far z := rfl
theorem RM_far_s_from (z : RM) (v : Int32) : RM_far (RM_s_from z v) = RM_far z := rfl
theorem RM_far_s_figures (z : RM) (v : Int32) : RM_far (RM_s_figures z v) = RM_far z := rfl
theorem RM_far_s_fault (z : RM) (v : Int32) : RM_far (RM_s_fault z v) = RM_far z := rfl
theorem RM_far_s_told (z : RM) (v : (Nat → Int32)) : RM_far (RM_s_told z v) = RM_far z := rfl
theorem RM_far_s_statements (z : RM) (v : Int32) : RM_far (RM_s_statements z v) = RM_far z := rfl
theorem RM_far_s_far (z : RM) (v : (Nat → Int32)) : RM_far (RM_s_far z v) = v := rfl
theorem RM_far_s_queue (z : RM) (v : (Nat → Int32)) : RM_far (RM_s_queue z v) = RM_far z := rfl
theorem RM_far_s_queued (z : RM) (v : Int32) : RM_far (RM_s_queued z v) = RM_far z := rfl
theorem RM_far_s_parts1 (z : RM) (v : (Nat → Int32)) : RM_far (RM_s_parts1 z v) = RM_far z := rfl
theorem RM_far_s_parts2 (z : RM) (v : (Nat → Int32)) : RM_far (RM_s_parts2 z v) = RM_far z := rfl
theorem RM_far_s_picturesSum (z : RM) (v : Int32) : RM_far (RM_s_picturesSum z v) = RM_far z := rfl
theorem RM_far_s_behindAll (z : RM) (v : Int32) : RM_far (RM_s_behindAll z v) = RM_far z := rfl
theorem RM_far_s_pl (z : RM) (v : Nat) : RM_far (RM_s_pl z v) = RM_far z := rfl
theorem RM_queue_s_shelf (z : RM) (v : (Nat → Int32)) : RM_queue (RM_s_shelf z v) = RM_queue z := rfl
theorem RM_queue_s_rowSort (z : RM) (v : (Nat → Int32)) : RM_queue (RM_s_rowSort z v) = RM_queue z := rfl
theorem RM_queue_s_rowSize (z : RM) (v : (Nat → Int32)) : RM_queue (RM_s_rowSize z v) = RM_queue z := rfl
theorem RM_queue_s_rows (z : RM) (v : (Nat → Nat → Int64)) : RM_queue (RM_s_rows z v) = RM_queue z := rfl
theorem RM_queue_s_moved1 (z : RM) (v : (Nat → Int64)) : RM_queue (RM_s_moved1 z v) = RM_queue z := rfl
theorem RM_queue_s_shown (z : RM) (v : (Nat → Int32)) : RM_queue (RM_s_shown z v) = RM_queue z := rfl
theorem RM_queue_s_tape (z : RM) (v : (Nat → Int32)) : RM_queue (RM_s_tape z v) = RM_queue z := rfl
theorem RM_queue_s_tapeSize (z : RM) (v : Int32) : RM_queue (RM_s_tapeSize z v) = RM_queue z := rfl
theorem RM_queue_s_refused (z : RM) (v : (Nat → Int32)) : RM_queue (RM_s_refused z v) = RM_queue z := rfl
theorem RM_queue_s_bars (z : RM) (v : Int32) : RM_queue (RM_s_bars z v) = RM_queue z := rfl
theorem RM_queue_s_kind (z : RM) (v : (Nat → Int32)) : RM_queue (RM_s_kind z v) = RM_queue z := rfl
theorem RM_queue_s_size (z : RM) (v : (Nat → Int32)) : RM_queue (RM_s_size z v) = RM_queue z := rfl
theorem RM_queue_s_on (z : RM) (v : (Nat → Int32)) : RM_queue (RM_s_on z v) = RM_queue z := rfl
theorem RM_queue_s_stuck (z : RM) (v : (Nat → Int32)) : RM_queue (RM_s_stuck z v) = RM_queue z := rfl
theorem RM_queue_s_must (z : RM) (v : (Nat → Nat → Int32)) : RM_queue (RM_s_must z v) = RM_queue z := rfl
theorem RM_queue_s_not (z : RM) (v : (Nat → Nat → Int32)) : RM_queue (RM_s_not z v) = RM_queue z := rfl
theorem RM_queue_s_minutes (z : RM) (v : (Nat → Int32)) : RM_queue (RM_s_minutes z v) = RM_queue z := rfl
theorem RM_queue_s_movedAll (z : RM) (v : Int32) : RM_queue (RM_s_movedAll z v) = RM_queue z := rfl
theorem RM_queue_s_seed (z : RM) (v : Int32) : RM_queue (RM_s_seed z v) = RM_queue z := rfl
theorem RM_queue_s_at (z : RM) (v : Int32) : RM_queue (RM_s_at z v) = RM_queue z := rfl
theorem RM_queue_s_token (z : RM) (v : Int32) : RM_queue (RM_s_token z v) = RM_queue z := rfl
theorem RM_queue_s_from (z : RM) (v : Int32) : RM_queue (RM_s_from z v) = RM_queue z := rfl
theorem RM_queue_s_figures (z : RM) (v : Int32) : RM_queue (RM_s_figures z v) = RM_queue z := rfl
theorem RM_queue_s_fault (z : RM) (v : Int32) : RM_queue (RM_s_fault z v) = RM_queue z := rfl
theorem RM_queue_s_told (z : RM) (v : (Nat → Int32)) : RM_queue (RM_s_told z v) = RM_queue z := rfl
theorem RM_queue_s_statements (z : RM) (v : Int32) : RM_queue (RM_s_statements z v) = RM_queue z := rfl
theorem RM_queue_s_far (z : RM) (v : (Nat → Int32)) : RM_queue (RM_s_far z v) = RM_queue z := rfl
theorem RM_queue_s_queue (z : RM) (v : (Nat → Int32)) : RM_queue (RM_s_queue z v) = v := rfl
theorem RM_queue_s_queued (z : RM) (v : Int32) : RM_queue (RM_s_queued z v) = RM_queue z := rfl
theorem RM_queue_s_parts1 (z : RM) (v : (Nat → Int32)) : RM_queue (RM_s_parts1 z v) = RM_queue z := rfl
theorem RM_queue_s_parts2 (z : RM) (v : (Nat → Int32)) : RM_queue (RM_s_parts2 z v) = RM_queue z := rfl
theorem RM_queue_s_picturesSum (z : RM) (v : Int32) : RM_queue (RM_s_picturesSum z v) = RM_queue z := rfl
theorem RM_queue_s_behindAll (z : RM) (v : Int32) : RM_queue (RM_s_behindAll z v) = RM_queue z := rfl
theorem RM_queue_s_pl (z : RM) (v : Nat) : RM_queue (RM_s_pl z v) = RM_queue z := rfl
theorem RM_queued_s_shelf (z : RM) (v : (Nat → Int32)) : RM_queued (RM_s_shelf z v) = RM_queued z := rfl
theorem RM_queued_s_rowSort (z : RM) (v : (Nat → Int32)) : RM_queued (RM_s_rowSort z v) = RM_queued z := rfl
theorem RM_queued_s_rowSize (z : RM) (v : (Nat → Int32)) : RM_queued (RM_s_rowSize z v) = RM_queued z := rfl
theorem RM_queued_s_rows (z : RM) (v : (Nat → Nat → Int64)) : RM_queued (RM_s_rows z v) = RM_queued z := rfl
theorem RM_queued_s_moved1 (z : RM) (v : (Nat → Int64)) : RM_queued (RM_s_moved1 z v) = RM_queued z := rfl
theorem RM_queued_s_shown (z : RM) (v : (Nat → Int32)) : RM_queued (RM_s_shown z v) = RM_queued z := rfl
theorem RM_queued_s_tape (z : RM) (v : (Nat → Int32)) : RM_queued (RM_s_tape z v) = RM_queued z := rfl
theorem RM_queued_s_tapeSize (z : RM) (v : Int32) : RM_queued (RM_s_tapeSize z v) = RM_queued z := rfl
theorem RM_queued_s_refused (z : RM) (v : (Nat → Int32)) : RM_queued (RM_s_refused z v) = RM_queued z := rfl
theorem RM_queued_s_bars (z : RM) (v : Int32) : RM_queued (RM_s_bars z v) = RM_queued z := rfl
theorem RM_queued_s_kind (z : RM) (v : (Nat → Int32)) : RM_queued (RM_s_kind z v) = RM_queued z := rfl
theorem RM_queued_s_size (z : RM) (v : (Nat → Int32)) : RM_queued (RM_s_size z v) = RM_queued z := rfl
theorem RM_queued_s_on (z : RM) (v : (Nat → Int32)) : RM_queued (RM_s_on z v) = RM_queued z := rfl
theorem RM_queued_s_stuck (z : RM) (v : (Nat → Int32)) : RM_queued (RM_s_stuck z v) = RM_queued z := rfl
theorem RM_queued_s_must (z : RM) (v : (Nat → Nat → Int32)) : RM_queued (RM_s_must z v) = RM_queued z := rfl
theorem RM_queued_s_not (z : RM) (v : (Nat → Nat → Int32)) : RM_queued (RM_s_not z v) = RM_queued z := rfl
theorem RM_queued_s_minutes (z : RM) (v : (Nat → Int32)) : RM_queued (RM_s_minutes z v) = RM_queued z := rfl
theorem RM_queued_s_movedAll (z : RM) (v : Int32) : RM_queued (RM_s_movedAll z v) = RM_queued z := rfl
theorem RM_queued_s_seed (z : RM) (v : Int32) : RM_queued (RM_s_seed z v) = RM_queued z := rfl
theorem RM_queued_s_at (z : RM) (v : Int32) : RM_queued (RM_s_at z v) = RM_queued z := rfl
theorem RM_queued_s_token (z : RM) (v : Int32) : RM_queued (RM_s_token z v) = RM_queued z := rfl
theorem RM_queued_s_from (z : RM) (v : Int32) : RM_queued (RM_s_from z v) = RM_queued z := rfl
theorem RM_queued_s_figures (z : RM) (v : Int32) : RM_queued (RM_s_figures z v) = RM_queued z := rfl
theorem RM_queued_s_fault (z : RM) (v : Int32) : RM_queued (RM_s_fault z v) = RM_queued z := rfl
theorem RM_queued_s_told (z : RM) (v : (Nat → Int32)) : RM_queued (RM_s_told z v) = RM_queued z := rfl
theorem RM_queued_s_statements (z : RM) (v : Int32) : RM_queued (RM_s_statements z v) = RM_queued z := rfl
theorem RM_queued_s_far (z : RM) (v : (Nat → Int32)) : RM_queued (RM_s_far z v) = RM_queued z := rfl
theorem RM_queued_s_queue (z : RM) (v : (Nat → Int32)) : RM_queued (RM_s_queue z v) = RM_queued z := rfl
theorem RM_queued_s_queued (z : RM) (v : Int32) : RM_queued (RM_s_queued z v) = v := rfl
theorem RM_queued_s_parts1 (z : RM) (v : (Nat → Int32)) : RM_queued (RM_s_parts1 z v) = RM_queued z := rfl
theorem RM_queued_s_parts2 (z : RM) (v : (Nat → Int32)) : RM_queued (RM_s_parts2 z v) = RM_queued z := rfl
theorem RM_queued_s_picturesSum (z : RM) (v : Int32) : RM_queued (RM_s_picturesSum z v) = RM_queued z := rfl
theorem RM_queued_s_behindAll (z : RM) (v : Int32) : RM_queued (RM_s_behindAll z v) = RM_queued z := rfl
theorem RM_queued_s_pl (z : RM) (v : Nat) : RM_queued (RM_s_pl z v) = RM_queued z := rfl
theorem RM_parts1_s_shelf (z : RM) (v : (Nat → Int32)) : RM_parts1 (RM_s_shelf z v) = RM_parts1 z := rfl
theorem RM_parts1_s_rowSort (z : RM) (v : (Nat → Int32)) : RM_parts1 (RM_s_rowSort z v) = RM_parts1 z := rfl
theorem RM_parts1_s_rowSize (z : RM) (v : (Nat → Int32)) : RM_parts1 (RM_s_rowSize z v) = RM_parts1 z := rfl
theorem RM_parts1_s_rows (z : RM) (v : (Nat → Nat → Int64)) : RM_parts1 (RM_s_rows z v) = RM_parts1 z := rfl
theorem RM_parts1_s_moved1 (z : RM) (v : (Nat → Int64)) : RM_parts1 (RM_s_moved1 z v) = RM_parts1 z := rfl
theorem RM_parts1_s_shown (z : RM) (v : (Nat → Int32)) : RM_parts1 (RM_s_shown z v) = RM_parts1 z := rfl
theorem RM_parts1_s_tape (z : RM) (v : (Nat → Int32)) : RM_parts1 (RM_s_tape z v) = RM_parts1 z := rfl
theorem RM_parts1_s_tapeSize (z : RM) (v : Int32) : RM_parts1 (RM_s_tapeSize z v) = RM_parts1 z := rfl
theorem RM_parts1_s_refused (z : RM) (v : (Nat → Int32)) : RM_parts1 (RM_s_refused z v) = RM_parts1 z := rfl
theorem RM_parts1_s_bars (z : RM) (v : Int32) : RM_parts1 (RM_s_bars z v) = RM_parts1 z := rfl
theorem RM_parts1_s_kind (z : RM) (v : (Nat → Int32)) : RM_parts1 (RM_s_kind z v) = RM_parts1 z := rfl
theorem RM_parts1_s_size (z : RM) (v : (Nat → Int32)) : RM_parts1 (RM_s_size z v) = RM_parts1 z := rfl
theorem RM_parts1_s_on (z : RM) (v : (Nat → Int32)) : RM_parts1 (RM_s_on z v) = RM_parts1 z := rfl
theorem RM_parts1_s_stuck (z : RM) (v : (Nat → Int32)) : RM_parts1 (RM_s_stuck z v) = RM_parts1 z := rfl
theorem RM_parts1_s_must (z : RM) (v : (Nat → Nat → Int32)) : RM_parts1 (RM_s_must z v) = RM_parts1 z := rfl
theorem RM_parts1_s_not (z : RM) (v : (Nat → Nat → Int32)) : RM_parts1 (RM_s_not z v) = RM_parts1 z := rfl
theorem RM_parts1_s_minutes (z : RM) (v : (Nat → Int32)) : RM_parts1 (RM_s_minutes z v) = RM_parts1 z := rfl
theorem RM_parts1_s_movedAll (z : RM) (v : Int32) : RM_parts1 (RM_s_movedAll z v) = RM_parts1 z := rfl
theorem RM_parts1_s_seed (z : RM) (v : Int32) : RM_parts1 (RM_s_seed z v) = RM_parts1 z := rfl
theorem RM_parts1_s_at (z : RM) (v : Int32) : RM_parts1 (RM_s_at z v) = RM_parts1 z := rfl
theorem RM_parts1_s_token (z : RM) (v : Int32) : RM_parts1 (RM_s_token z v) = RM_parts1 z := rfl
theorem RM_parts1_s_from (z : RM) (v : Int32) : RM_parts1 (RM_s_from z v) = RM_parts1 z := rfl
theorem RM_parts1_s_figures (z : RM) (v : Int32) : RM_parts1 (RM_s_figures z v) = RM_parts1 z := rfl
theorem RM_parts1_s_fault (z : RM) (v : Int32) : RM_parts1 (RM_s_fault z v) = RM_parts1 z := rfl
theorem RM_parts1_s_told (z : RM) (v : (Nat → Int32)) : RM_parts1 (RM_s_told z v) = RM_parts1 z := rfl
theorem RM_parts1_s_statements (z : RM) (v : Int32) : RM_parts1 (RM_s_statements z v) = RM_parts1 z := rfl
theorem RM_parts1_s_far (z : RM) (v : (Nat → Int32)) : RM_parts1 (RM_s_far z v) = RM_parts1 z := rfl
theorem RM_parts1_s_queue (z : RM) (v : (Nat → Int32)) : RM_parts1 (RM_s_queue z v) = RM_parts1 z := rfl
theorem RM_parts1_s_queued (z : RM) (v : Int32) : RM_parts1 (RM_s_queued z v) = RM_parts1 z := rfl
theorem RM_parts1_s_parts1 (z : RM) (v : (Nat → Int32)) : RM_parts1 (RM_s_parts1 z v) = v := rfl
theorem RM_parts1_s_parts2 (z : RM) (v : (Nat → Int32)) : RM_parts1 (RM_s_parts2 z v) = RM_parts1 z := rfl
theorem RM_parts1_s_picturesSum (z : RM) (v : Int32) : RM_parts1 (RM_s_picturesSum z v) = RM_parts1 z := rfl
theorem RM_parts1_s_behindAll (z : RM) (v : Int32) : RM_parts1 (RM_s_behindAll z v) = RM_parts1 z := rfl
theorem RM_parts1_s_pl (z : RM) (v : Nat) : RM_parts1 (RM_s_pl z v) = RM_parts1 z := rfl
theorem RM_parts2_s_shelf (z : RM) (v : (Nat → Int32)) : RM_parts2 (RM_s_shelf z v) = RM_parts2 z := rfl
theorem RM_parts2_s_rowSort (z : RM) (v : (Nat → Int32)) : RM_parts2 (RM_s_rowSort z v) = RM_parts2 z := rfl
theorem RM_parts2_s_rowSize (z : RM) (v : (Nat → Int32)) : RM_parts2 (RM_s_rowSize z v) = RM_parts2 z := rfl
theorem RM_parts2_s_rows (z : RM) (v : (Nat → Nat → Int64)) : RM_parts2 (RM_s_rows z v) = RM_parts2 z := rfl
theorem RM_parts2_s_moved1 (z : RM) (v : (Nat → Int64)) : RM_parts2 (RM_s_moved1 z v) = RM_parts2 z := rfl
theorem RM_parts2_s_shown (z : RM) (v : (Nat → Int32)) : RM_parts2 (RM_s_shown z v) = RM_parts2 z := rfl
theorem RM_parts2_s_tape (z : RM) (v : (Nat → Int32)) : RM_parts2 (RM_s_tape z v) = RM_parts2 z := rfl
theorem RM_parts2_s_tapeSize (z : RM) (v : Int32) : RM_parts2 (RM_s_tapeSize z v) = RM_parts2 z := rfl
theorem RM_parts2_s_refused (z : RM) (v : (Nat → Int32)) : RM_parts2 (RM_s_refused z v) = RM_parts2 z := rfl
theorem RM_parts2_s_bars (z : RM) (v : Int32) : RM_parts2 (RM_s_bars z v) = RM_parts2 z := rfl
theorem RM_parts2_s_kind (z : RM) (v : (Nat → Int32)) : RM_parts2 (RM_s_kind z v) = RM_parts2 z := rfl
theorem RM_parts2_s_size (z : RM) (v : (Nat → Int32)) : RM_parts2 (RM_s_size z v) = RM_parts2 z := rfl
theorem RM_parts2_s_on (z : RM) (v : (Nat → Int32)) : RM_parts2 (RM_s_on z v) = RM_parts2 z := rfl
theorem RM_parts2_s_stuck (z : RM) (v : (Nat → Int32)) : RM_parts2 (RM_s_stuck z v) = RM_parts2 z := rfl
theorem RM_parts2_s_must (z : RM) (v : (Nat → Nat → Int32)) : RM_parts2 (RM_s_must z v) = RM_parts2 z := rfl
theorem RM_parts2_s_not (z : RM) (v : (Nat → Nat → Int32)) : RM_parts2 (RM_s_not z v) = RM_parts2 z := rfl
theorem RM_parts2_s_minutes (z : RM) (v : (Nat → Int32)) : RM_parts2 (RM_s_minutes z v) = RM_parts2 z := rfl
theorem RM_parts2_s_movedAll (z : RM) (v : Int32) : RM_parts2 (RM_s_movedAll z v) = RM_parts2 z := rfl
theorem RM_parts2_s_seed (z : RM) (v : Int32) : RM_parts2 (RM_s_seed z v) = RM_parts2 z := rfl
theorem RM_parts2_s_at (z : RM) (v : Int32) : RM_parts2 (RM_s_at z v) = RM_parts2 z := rfl
theorem RM_parts2_s_token (z : RM) (v : Int32) : RM_parts2 (RM_s_token z v) = RM_parts2 z := rfl
theorem RM_parts2_s_from (z : RM) (v : Int32) : RM_parts2 (RM_s_from z v) = RM_parts2 z := rfl
theorem RM_parts2_s_figures (z : RM) (v : Int32) : RM_parts2 (RM_s_figures z v) = RM_parts2 z := rfl
theorem RM_parts2_s_fault (z : RM) (v : Int32) : RM_parts2 (RM_s_fault z v) = RM_parts2 z := rfl
theorem RM_parts2_s_told (z : RM) (v : (Nat → Int32)) : RM_parts2 (RM_s_told z v) = RM_parts2 z := rfl
theorem RM_parts2_s_statements (z : RM) (v : Int32) : RM_parts2 (RM_s_statements z v) = RM_parts2 z := rfl
theorem RM_parts2_s_far (z : RM) (v : (Nat → Int32)) : RM_parts2 (RM_s_far z v) = RM_parts2 z := rfl
theorem RM_parts2_s_queue (z : RM) (v : (Nat → Int32)) : RM_parts2 (RM_s_queue z v) = RM_parts2 z := rfl
theorem RM_parts2_s_queued (z : RM) (v : Int32) : RM_parts2 (RM_s_queued z v) = RM_parts2 z := rfl
theorem RM_parts2_s_parts1 (z : RM) (v : (Nat → Int32)) : RM_parts2 (RM_s_parts1 z v) = RM_parts2 z := rfl
theorem RM_parts2_s_parts2 (z : RM) (v : (Nat → Int32)) : RM_parts2 (RM_s_parts2 z v) = v := rfl
theorem RM_parts2_s_picturesSum (z : RM) (v : Int32) : RM_parts2 (RM_s_picturesSum z v) = RM_parts2 z := rfl
theorem RM_parts2_s_behindAll (z : RM) (v : Int32) : RM_parts2 (RM_s_behindAll z v) = RM_parts2 z := rfl
theorem RM_parts2_s_pl (z : RM) (v : Nat) : RM_parts2 (RM_s_pl z v) = RM_parts2 z := rfl
theorem RM_picturesSum_s_shelf (z : RM) (v : (Nat → Int32)) : RM_picturesSum (RM_s_shelf z v) = RM_picturesSum z := rfl
theorem RM_picturesSum_s_rowSort (z : RM) (v : (Nat → Int32)) : RM_picturesSum (RM_s_rowSort z v) = RM_picturesSum z := rfl
theorem RM_picturesSum_s_rowSize (z : RM) (v : (Nat → Int32)) : RM_picturesSum (RM_s_rowSize z v) = RM_picturesSum z := rfl
theorem RM_picturesSum_s_rows (z : RM) (v : (Nat → Nat → Int64)) : RM_picturesSum (RM_s_rows z v) = RM_picturesSum z := rfl
theorem RM_picturesSum_s_moved1 (z : RM) (v : (Nat → Int64)) : RM_picturesSum (RM_s_moved1 z v) = RM_picturesSum z := rfl
theorem RM_picturesSum_s_shown (z : RM) (v : (Nat → Int32)) : RM_picturesSum (RM_s_shown z v) = RM_picturesSum z := rfl
theorem RM_picturesSum_s_tape (z : RM) (v : (Nat → Int32)) : RM_picturesSum (RM_s_tape z v) = RM_picturesSum z := rfl
theorem RM_picturesSum_s_tapeSize (z : RM) (v : Int32) : RM_picturesSum (RM_s_tapeSize z v) = RM_picturesSum z := rfl
theorem RM_picturesSum_s_refused (z : RM) (v : (Nat → Int32)) : RM_picturesSum (RM_s_refused z v) = RM_picturesSum z := rfl
theorem RM_picturesSum_s_bars (z : RM) (v : Int32) : RM_picturesSum (RM_s_bars z v) = RM_picturesSum z := rfl
theorem RM_picturesSum_s_kind (z : RM) (v : (Nat → Int32)) : RM_picturesSum (RM_s_kind z v) = RM_picturesSum z := rfl
theorem RM_picturesSum_s_size (z : RM) (v : (Nat → Int32)) : RM_picturesSum (RM_s_size z v) = RM_picturesSum z := rfl
theorem RM_picturesSum_s_on (z : RM) (v : (Nat → Int32)) : RM_picturesSum (RM_s_on z v) = RM_picturesSum z := rfl
theorem RM_picturesSum_s_stuck (z : RM) (v : (Nat → Int32)) : RM_picturesSum (RM_s_stuck z v) = RM_picturesSum z := rfl
theorem RM_picturesSum_s_must (z : RM) (v : (Nat → Nat → Int32)) : RM_picturesSum (RM_s_must z v) = RM_picturesSum z := rfl
theorem RM_picturesSum_s_not (z : RM) (v : (Nat → Nat → Int32)) : RM_picturesSum (RM_s_not z v) = RM_picturesSum z := rfl
theorem RM_picturesSum_s_minutes (z : RM) (v : (Nat → Int32)) : RM_picturesSum (RM_s_minutes z v) = RM_picturesSum z := rfl
theorem RM_picturesSum_s_movedAll (z : RM) (v : Int32) : RM_picturesSum (RM_s_movedAll z v) = RM_picturesSum z := rfl
theorem RM_picturesSum_s_seed (z : RM) (v : Int32) : RM_picturesSum (RM_s_seed z v) = RM_picturesSum z := rfl
theorem RM_picturesSum_s_at (z : RM) (v : Int32) : RM_picturesSum (RM_s_at z v) = RM_picturesSum z := rfl
theorem RM_picturesSum_s_token (z : RM) (v : Int32) : RM_picturesSum (RM_s_token z v) = RM_picturesSum z := rfl
theorem RM_picturesSum_s_from (z : RM) (v : Int32) : RM_picturesSum (RM_s_from z v) = RM_picturesSum z := rfl
theorem RM_picturesSum_s_figures (z : RM) (v : Int32) : RM_picturesSum (RM_s_figures z v) = RM_picturesSum z := rfl
theorem RM_picturesSum_s_fault (z : RM) (v : Int32) : RM_picturesSum (RM_s_fault z v) = RM_picturesSum z := rfl
theorem RM_picturesSum_s_told (z : RM) (v : (Nat → Int32)) : RM_picturesSum (RM_s_told z v) = RM_picturesSum z := rfl
theorem RM_picturesSum_s_statements (z : RM) (v : Int32) : RM_picturesSum (RM_s_statements z v) = RM_picturesSum z := rfl
theorem RM_picturesSum_s_far (z : RM) (v : (Nat → Int32)) : RM_picturesSum (RM_s_far z v) = RM_picturesSum z := rfl
theorem RM_picturesSum_s_queue (z : RM) (v : (Nat → Int32)) : RM_picturesSum (RM_s_queue z v) = RM_picturesSum z := rfl
theorem RM_picturesSum_s_queued (z : RM) (v : Int32) : RM_picturesSum (RM_s_queued z v) = RM_picturesSum z := rfl
theorem RM_picturesSum_s_parts1 (z : RM) (v : (Nat → Int32)) : RM_picturesSum (RM_s_parts1 z v) = RM_picturesSum z := rfl
theorem RM_picturesSum_s_parts2 (z : RM) (v : (Nat → Int32)) : RM_picturesSum (RM_s_parts2 z v) = RM_picturesSum z := rfl
theorem RM_picturesSum_s_picturesSum (z : RM) (v : Int32) : RM_picturesSum (RM_s_picturesSum z v) = v := rfl
theorem RM_picturesSum_s_behindAll (z : RM) (v : Int32) : RM_picturesSum (RM_s_behindAll z v) = RM_picturesSum z := rfl
theorem RM_picturesSum_s_pl (z : RM) (v : Nat) : RM_picturesSum (RM_s_pl z v) = RM_picturesSum z := rfl
theorem RM_behindAll_s_shelf (z : RM) (v : (Nat → Int32)) : RM_behindAll (RM_s_shelf z v) = RM_behindAll z := rfl
theorem RM_behindAll_s_rowSort (z : RM) (v : (Nat → Int32)) : RM_behindAll (RM_s_rowSort z v) = RM_behindAll z := rfl
theorem RM_behindAll_s_rowSize (z : RM) (v : (Nat → Int32)) : RM_behindAll (RM_s_rowSize z v) = RM_behindAll z := rfl
theorem RM_behindAll_s_rows (z : RM) (v : (Nat → Nat → Int64)) : RM_behindAll (RM_s_rows z v) = RM_behindAll z := rfl
theorem RM_behindAll_s_moved1 (z : RM) (v : (Nat → Int64)) : RM_behindAll (RM_s_moved1 z v) = RM_behindAll z := rfl
theorem RM_behindAll_s_shown (z : RM) (v : (Nat → Int32)) : RM_behindAll (RM_s_shown z v) = RM_behindAll z := rfl
theorem RM_behindAll_s_tape (z : RM) (v : (Nat → Int32)) : RM_behindAll (RM_s_tape z v) = RM_behindAll z := rfl
theorem RM_behindAll_s_tapeSize (z : RM) (v : Int32) : RM_behindAll (RM_s_tapeSize z v) = RM_behindAll z := rfl
theorem RM_behindAll_s_refused (z : RM) (v : (Nat → Int32)) : RM_behindAll (RM_s_refused z v) = RM_behindAll z := rfl
theorem RM_behindAll_s_bars (z : RM) (v : Int32) : RM_behindAll (RM_s_bars z v) = RM_behindAll z := rfl
theorem RM_behindAll_s_kind (z : RM) (v : (Nat → Int32)) : RM_behindAll (RM_s_kind z v) = RM_behindAll z := rfl
theorem RM_behindAll_s_size (z : RM) (v : (Nat → Int32)) : RM_behindAll (RM_s_size z v) = RM_behindAll z := rfl
theorem RM_behindAll_s_on (z : RM) (v : (Nat → Int32)) : RM_behindAll (RM_s_on z v) = RM_behindAll z := rfl
theorem RM_behindAll_s_stuck (z : RM) (v : (Nat → Int32)) : RM_behindAll (RM_s_stuck z v) = RM_behindAll z := rfl
theorem RM_behindAll_s_must (z : RM) (v : (Nat → Nat → Int32)) : RM_behindAll (RM_s_must z v) = RM_behindAll z := rfl
theorem RM_behindAll_s_not (z : RM) (v : (Nat → Nat → Int32)) : RM_behindAll (RM_s_not z v) = RM_behindAll z := rfl
theorem RM_behindAll_s_minutes (z : RM) (v : (Nat → Int32)) : RM_behindAll (RM_s_minutes z v) = RM_behindAll z := rfl
theorem RM_behindAll_s_movedAll (z : RM) (v : Int32) : RM_behindAll (RM_s_movedAll z v) = RM_behindAll z := rfl
theorem RM_behindAll_s_seed (z : RM) (v : Int32) : RM_behindAll (RM_s_seed z v) = RM_behindAll z := rfl
theorem RM_behindAll_s_at (z : RM) (v : Int32) : RM_behindAll (RM_s_at z v) = RM_behindAll z := rfl
theorem RM_behindAll_s_token (z : RM) (v : Int32) : RM_behindAll (RM_s_token z v) = RM_behindAll z := rfl
theorem RM_behindAll_s_from (z : RM) (v : Int32) : RM_behindAll (RM_s_from z v) = RM_behindAll z := rfl
theorem RM_behindAll_s_figures (z : RM) (v : Int32) : RM_behindAll (RM_s_figures z v) = RM_behindAll z := rfl
theorem RM_behindAll_s_fault (z : RM) (v : Int32) : RM_behindAll (RM_s_fault z v) = RM_behindAll z := rfl
theorem RM_behindAll_s_told (z : RM) (v : (Nat → Int32)) : RM_behindAll (RM_s_told z v) = RM_behindAll z := rfl
theorem RM_behindAll_s_statements (z : RM) (v : Int32) : RM_behindAll (RM_s_statements z v) = RM_behindAll z := rfl
theorem RM_behindAll_s_far (z : RM) (v : (Nat → Int32)) : RM_behindAll (RM_s_far z v) = RM_behindAll z := rfl
theorem RM_behindAll_s_queue (z : RM) (v : (Nat → Int32)) : RM_behindAll (RM_s_queue z v) = RM_behindAll z := rfl
theorem RM_behindAll_s_queued (z : RM) (v : Int32) : RM_behindAll (RM_s_queued z v) = RM_behindAll z := rfl
theorem RM_behindAll_s_parts1 (z : RM) (v : (Nat → Int32)) : RM_behindAll (RM_s_parts1 z v) = RM_behindAll z := rfl
theorem RM_behindAll_s_parts2 (z : RM) (v : (Nat → Int32)) : RM_behindAll (RM_s_parts2 z v) = RM_behindAll z := rfl
theorem RM_behindAll_s_picturesSum (z : RM) (v : Int32) : RM_behindAll (RM_s_picturesSum z v) = RM_behindAll z := rfl
theorem RM_behindAll_s_behindAll (z : RM) (v : Int32) : RM_behindAll (RM_s_behindAll z v) = v := rfl
theorem RM_behindAll_s_pl (z : RM) (v : Nat) : RM_behindAll (RM_s_pl z v) = RM_behindAll z := rfl
theorem RM_pl_s_shelf (z : RM) (v : (Nat → Int32)) : RM_pl (RM_s_shelf z v) = RM_pl z := rfl
theorem RM_pl_s_rowSort (z : RM) (v : (Nat → Int32)) : RM_pl (RM_s_rowSort z v) = RM_pl z := rfl
theorem RM_pl_s_rowSize (z : RM) (v : (Nat → Int32)) : RM_pl (RM_s_rowSize z v) = RM_pl z := rfl
theorem RM_pl_s_rows (z : RM) (v : (Nat → Nat → Int64)) : RM_pl (RM_s_rows z v) = RM_pl z := rfl
theorem RM_pl_s_moved1 (z : RM) (v : (Nat → Int64)) : RM_pl (RM_s_moved1 z v) = RM_pl z := rfl
theorem RM_pl_s_shown (z : RM) (v : (Nat → Int32)) : RM_pl (RM_s_shown z v) = RM_pl z := rfl
theorem RM_pl_s_tape (z : RM) (v : (Nat → Int32)) : RM_pl (RM_s_tape z v) = RM_pl z := rfl
theorem RM_pl_s_tapeSize (z : RM) (v : Int32) : RM_pl (RM_s_tapeSize z v) = RM_pl z := rfl
theorem RM_pl_s_refused (z : RM) (v : (Nat → Int32)) : RM_pl (RM_s_refused z v) = RM_pl z := rfl
theorem RM_pl_s_bars (z : RM) (v : Int32) : RM_pl (RM_s_bars z v) = RM_pl z := rfl
theorem RM_pl_s_kind (z : RM) (v : (Nat → Int32)) : RM_pl (RM_s_kind z v) = RM_pl z := rfl
theorem RM_pl_s_size (z : RM) (v : (Nat → Int32)) : RM_pl (RM_s_size z v) = RM_pl z := rfl
theorem RM_pl_s_on (z : RM) (v : (Nat → Int32)) : RM_pl (RM_s_on z v) = RM_pl z := rfl
theorem RM_pl_s_stuck (z : RM) (v : (Nat → Int32)) : RM_pl (RM_s_stuck z v) = RM_pl z := rfl
theorem RM_pl_s_must (z : RM) (v : (Nat → Nat → Int32)) : RM_pl (RM_s_must z v) = RM_pl z := rfl
theorem RM_pl_s_not (z : RM) (v : (Nat → Nat → Int32)) : RM_pl (RM_s_not z v) = RM_pl z := rfl
theorem RM_pl_s_minutes (z : RM) (v : (Nat → Int32)) : RM_pl (RM_s_minutes z v) = RM_pl z := rfl
theorem RM_pl_s_movedAll (z : RM) (v : Int32) : RM_pl (RM_s_movedAll z v) = RM_pl z := rfl
theorem RM_pl_s_seed (z : RM) (v : Int32) : RM_pl (RM_s_seed z v) = RM_pl z := rfl
theorem RM_pl_s_at (z : RM) (v : Int32) : RM_pl (RM_s_at z v) = RM_pl z := rfl
theorem RM_pl_s_token (z : RM) (v : Int32) : RM_pl (RM_s_token z v) = RM_pl z := rfl
theorem RM_pl_s_from (z : RM) (v : Int32) : RM_pl (RM_s_from z v) = RM_pl z := rfl
theorem RM_pl_s_figures (z : RM) (v : Int32) : RM_pl (RM_s_figures z v) = RM_pl z := rfl
theorem RM_pl_s_fault (z : RM) (v : Int32) : RM_pl (RM_s_fault z v) = RM_pl z := rfl
theorem RM_pl_s_told (z : RM) (v : (Nat → Int32)) : RM_pl (RM_s_told z v) = RM_pl z := rfl
theorem RM_pl_s_statements (z : RM) (v : Int32) : RM_pl (RM_s_statements z v) = RM_pl z := rfl
theorem RM_pl_s_far (z : RM) (v : (Nat → Int32)) : RM_pl (RM_s_far z v) = RM_pl z := rfl
theorem RM_pl_s_queue (z : RM) (v : (Nat → Int32)) : RM_pl (RM_s_queue z v) = RM_pl z := rfl
theorem RM_pl_s_queued (z : RM) (v : Int32) : RM_pl (RM_s_queued z v) = RM_pl z := rfl
theorem RM_pl_s_parts1 (z : RM) (v : (Nat → Int32)) : RM_pl (RM_s_parts1 z v) = RM_pl z := rfl
theorem RM_pl_s_parts2 (z : RM) (v : (Nat → Int32)) : RM_pl (RM_s_parts2 z v) = RM_pl z := rfl
theorem RM_pl_s_picturesSum (z : RM) (v : Int32) : RM_pl (RM_s_picturesSum z v) = RM_pl z := rfl
theorem RM_pl_s_behindAll (z : RM) (v : Int32) : RM_pl (RM_s_behindAll z v) = RM_pl z := rfl
theorem RM_pl_s_pl (z : RM) (v : Nat) : RM_pl (RM_s_pl z v) = v := rfl

theorem zf0 (c : h_C) (m : h_M) {j : Nat} (h : vG j) : p_Z (h_H c m) (h_A 0 j) 0 = c 0 j 0 := zO c m (d0 h) (by decide) 0 (by decide)
theorem wf0 (c : h_C) (m : h_M) {j : Nat} (h : vG j) (x : Int) : p_wZ (h_H c m) (h_A 0 j) 0 x = h_H (wc c 0 j 0 x) m := wO c m (d0 h) (by decide) 0 (by decide) x
theorem zf1 (c : h_C) (m : h_M) {j : Nat} (h : vG j) : p_Z (h_H c m) (h_A 0 j) 1 = c 1 j 0 := zO c m (d0 h) (by decide) 1 (by decide)
theorem wf1 (c : h_C) (m : h_M) {j : Nat} (h : vG j) (x : Int) : p_wZ (h_H c m) (h_A 0 j) 1 x = h_H (wc c 1 j 0 x) m := wO c m (d0 h) (by decide) 1 (by decide) x
theorem zf2 (c : h_C) (m : h_M) {j : Nat} (h : vG j) : p_Z (h_H c m) (h_A 0 j) 2 = c 2 j 0 := zO c m (d0 h) (by decide) 2 (by decide)
theorem wf2 (c : h_C) (m : h_M) {j : Nat} (h : vG j) (x : Int) : p_wZ (h_H c m) (h_A 0 j) 2 x = h_H (wc c 2 j 0 x) m := wO c m (d0 h) (by decide) 2 (by decide) x
theorem zf3 (c : h_C) (m : h_M) {j : Nat} (h : vG j) : p_Z (h_H c m) (h_A 0 j) 3 = c 3 j 0 := zO c m (d0 h) (by decide) 3 (by decide)
theorem wf3 (c : h_C) (m : h_M) {j : Nat} (h : vG j) (x : Int) : p_wZ (h_H c m) (h_A 0 j) 3 x = h_H (wc c 3 j 0 x) m := wO c m (d0 h) (by decide) 3 (by decide) x
theorem zf6 (c : h_C) (m : h_M) {j : Nat} (h : vG j) : p_Z (h_H c m) (h_A 0 j) 6 = c 6 j 0 := zO c m (d0 h) (by decide) 6 (by decide)
theorem wf6 (c : h_C) (m : h_M) {j : Nat} (h : vG j) (x : Int) : p_wZ (h_H c m) (h_A 0 j) 6 x = h_H (wc c 6 j 0 x) m := wO c m (d0 h) (by decide) 6 (by decide) x
theorem zf7 (c : h_C) (m : h_M) {j : Nat} (h : vG j) : p_Z (h_H c m) (h_A 0 j) 7 = c 7 j 0 := zO c m (d0 h) (by decide) 7 (by decide)
theorem wf7 (c : h_C) (m : h_M) {j : Nat} (h : vG j) (x : Int) : p_wZ (h_H c m) (h_A 0 j) 7 x = h_H (wc c 7 j 0 x) m := wO c m (d0 h) (by decide) 7 (by decide) x
theorem zf8 (c : h_C) (m : h_M) {j : Nat} (h : vG j) : p_Z (h_H c m) (h_A 0 j) 8 = c 8 j 0 := zO c m (d0 h) (by decide) 8 (by decide)
theorem wf8 (c : h_C) (m : h_M) {j : Nat} (h : vG j) (x : Int) : p_wZ (h_H c m) (h_A 0 j) 8 x = h_H (wc c 8 j 0 x) m := wO c m (d0 h) (by decide) 8 (by decide) x
theorem zf9 (c : h_C) (m : h_M) {j : Nat} (h : vG j) : p_Z (h_H c m) (h_A 0 j) 9 = c 9 j 0 := zO c m (d0 h) (by decide) 9 (by decide)
theorem wf9 (c : h_C) (m : h_M) {j : Nat} (h : vG j) (x : Int) : p_wZ (h_H c m) (h_A 0 j) 9 x = h_H (wc c 9 j 0 x) m := wO c m (d0 h) (by decide) 9 (by decide) x
theorem zf10 (c : h_C) (m : h_M) {j : Nat} (h : vG j) : p_Z (h_H c m) (h_A 0 j) 10 = c 10 j 0 := zO c m (d0 h) (by decide) 10 (by decide)
theorem wf10 (c : h_C) (m : h_M) {j : Nat} (h : vG j) (x : Int) : p_wZ (h_H c m) (h_A 0 j) 10 x = h_H (wc c 10 j 0 x) m := wO c m (d0 h) (by decide) 10 (by decide) x
theorem zf11 (c : h_C) (m : h_M) {j : Nat} (h : vG j) : p_Z (h_H c m) (h_A 0 j) 11 = c 11 j 0 := zO c m (d0 h) (by decide) 11 (by decide)
theorem wf11 (c : h_C) (m : h_M) {j : Nat} (h : vG j) (x : Int) : p_wZ (h_H c m) (h_A 0 j) 11 x = h_H (wc c 11 j 0 x) m := wO c m (d0 h) (by decide) 11 (by decide) x
theorem zf12 (c : h_C) (m : h_M) {j : Nat} (h : vG j) : p_Z (h_H c m) (h_A 0 j) 12 = c 12 j 0 := zO c m (d0 h) (by decide) 12 (by decide)
theorem wf12 (c : h_C) (m : h_M) {j : Nat} (h : vG j) (x : Int) : p_wZ (h_H c m) (h_A 0 j) 12 x = h_H (wc c 12 j 0 x) m := wO c m (d0 h) (by decide) 12 (by decide) x
theorem zf13 (c : h_C) (m : h_M) {j : Nat} (h : vG j) : p_Z (h_H c m) (h_A 0 j) 13 = c 13 j 0 := zO c m (d0 h) (by decide) 13 (by decide)
theorem wf13 (c : h_C) (m : h_M) {j : Nat} (h : vG j) (x : Int) : p_wZ (h_H c m) (h_A 0 j) 13 x = h_H (wc c 13 j 0 x) m := wO c m (d0 h) (by decide) 13 (by decide) x
theorem zf14 (c : h_C) (m : h_M) {j : Nat} (h : vG j) : p_Z (h_H c m) (h_A 0 j) 14 = c 14 j 0 := zO c m (d0 h) (by decide) 14 (by decide)
theorem wf14 (c : h_C) (m : h_M) {j : Nat} (h : vG j) (x : Int) : p_wZ (h_H c m) (h_A 0 j) 14 x = h_H (wc c 14 j 0 x) m := wO c m (d0 h) (by decide) 14 (by decide) x
theorem zf15 (c : h_C) (m : h_M) {j : Nat} (h : vG j) : p_Z (h_H c m) (h_A 0 j) 15 = c 15 j 0 := zO c m (d0 h) (by decide) 15 (by decide)
theorem wf15 (c : h_C) (m : h_M) {j : Nat} (h : vG j) (x : Int) : p_wZ (h_H c m) (h_A 0 j) 15 x = h_H (wc c 15 j 0 x) m := wO c m (d0 h) (by decide) 15 (by decide) x
theorem zf16 (c : h_C) (m : h_M) {j : Nat} (h : vG j) : p_Z (h_H c m) (h_A 0 j) 16 = c 16 j 0 := zO c m (d0 h) (by decide) 16 (by decide)
theorem wf16 (c : h_C) (m : h_M) {j : Nat} (h : vG j) (x : Int) : p_wZ (h_H c m) (h_A 0 j) 16 x = h_H (wc c 16 j 0 x) m := wO c m (d0 h) (by decide) 16 (by decide) x
theorem zf19 (c : h_C) (m : h_M) {j : Nat} (h : vG j) : p_Z (h_H c m) (h_A 0 j) 19 = c 19 j 0 := zO c m (d0 h) (by decide) 19 (by decide)
theorem wf19 (c : h_C) (m : h_M) {j : Nat} (h : vG j) (x : Int) : p_wZ (h_H c m) (h_A 0 j) 19 x = h_H (wc c 19 j 0 x) m := wO c m (d0 h) (by decide) 19 (by decide) x
theorem zf1002 (c : h_C) (m : h_M) : p_Z (h_H c m) 1115 2 = c 1002 0 0 := zO c m d1000 (by decide) 2 (by decide)
theorem wf1002 (c : h_C) (m : h_M) (x : Int) : p_wZ (h_H c m) 1115 2 x = h_H (wc c 1002 0 0 x) m := wO c m d1000 (by decide) 2 (by decide) x
theorem zf1003 (c : h_C) (m : h_M) : p_Z (h_H c m) 1115 3 = c 1003 0 0 := zO c m d1000 (by decide) 3 (by decide)
theorem wf1003 (c : h_C) (m : h_M) (x : Int) : p_wZ (h_H c m) 1115 3 x = h_H (wc c 1003 0 0 x) m := wO c m d1000 (by decide) 3 (by decide) x
theorem zf400 (c : h_C) (m : h_M) {j : Nat} (h : vL j) : p_Z (h_H c m) (h_A 400 j) 0 = c 400 j 0 := zO c m (d400 h) (by decide) 0 (by decide)
theorem wf400 (c : h_C) (m : h_M) {j : Nat} (h : vL j) (x : Int) : p_wZ (h_H c m) (h_A 400 j) 0 x = h_H (wc c 400 j 0 x) m := wO c m (d400 h) (by decide) 0 (by decide) x
theorem zf401 (c : h_C) (m : h_M) {j : Nat} (h : vL j) : p_Z (h_H c m) (h_A 400 j) 1 = c 401 j 0 := zO c m (d400 h) (by decide) 1 (by decide)
theorem wf401 (c : h_C) (m : h_M) {j : Nat} (h : vL j) (x : Int) : p_wZ (h_H c m) (h_A 400 j) 1 x = h_H (wc c 401 j 0 x) m := wO c m (d400 h) (by decide) 1 (by decide) x
theorem zf403 (c : h_C) (m : h_M) {j : Nat} (h : vL j) : p_Z (h_H c m) (h_A 400 j) 3 = c 403 j 0 := zO c m (d400 h) (by decide) 3 (by decide)
theorem wf403 (c : h_C) (m : h_M) {j : Nat} (h : vL j) (x : Int) : p_wZ (h_H c m) (h_A 400 j) 3 x = h_H (wc c 403 j 0 x) m := wO c m (d400 h) (by decide) 3 (by decide) x
theorem zf701 (c : h_C) (m : h_M) : p_Z (h_H c m) 1110 1 = c 701 0 0 := zO c m d700 (by decide) 1 (by decide)
theorem wf701 (c : h_C) (m : h_M) (x : Int) : p_wZ (h_H c m) 1110 1 x = h_H (wc c 701 0 0 x) m := wO c m d700 (by decide) 1 (by decide) x
theorem zf100 (c : h_C) (m : h_M) {j : Nat} (h : vP j) : p_Z (h_H c m) (h_A 100 j) 0 = c 100 j 0 := zO c m (d100 h) (by decide) 0 (by decide)
theorem wf100 (c : h_C) (m : h_M) {j : Nat} (h : vP j) (x : Int) : p_wZ (h_H c m) (h_A 100 j) 0 x = h_H (wc c 100 j 0 x) m := wO c m (d100 h) (by decide) 0 (by decide) x
theorem zf101 (c : h_C) (m : h_M) {j : Nat} (h : vP j) : p_Z (h_H c m) (h_A 100 j) 1 = c 101 j 0 := zO c m (d100 h) (by decide) 1 (by decide)
theorem wf101 (c : h_C) (m : h_M) {j : Nat} (h : vP j) (x : Int) : p_wZ (h_H c m) (h_A 100 j) 1 x = h_H (wc c 101 j 0 x) m := wO c m (d100 h) (by decide) 1 (by decide) x
theorem zf102 (c : h_C) (m : h_M) {j : Nat} (h : vP j) : p_Z (h_H c m) (h_A 100 j) 2 = c 102 j 0 := zO c m (d100 h) (by decide) 2 (by decide)
theorem wf102 (c : h_C) (m : h_M) {j : Nat} (h : vP j) (x : Int) : p_wZ (h_H c m) (h_A 100 j) 2 x = h_H (wc c 102 j 0 x) m := wO c m (d100 h) (by decide) 2 (by decide) x
theorem zf103 (c : h_C) (m : h_M) {j : Nat} (h : vP j) : p_Z (h_H c m) (h_A 100 j) 3 = c 103 j 0 := zO c m (d100 h) (by decide) 3 (by decide)
theorem wf103 (c : h_C) (m : h_M) {j : Nat} (h : vP j) (x : Int) : p_wZ (h_H c m) (h_A 100 j) 3 x = h_H (wc c 103 j 0 x) m := wO c m (d100 h) (by decide) 3 (by decide) x
theorem zf104 (c : h_C) (m : h_M) {j : Nat} (h : vP j) : p_Z (h_H c m) (h_A 100 j) 4 = c 104 j 0 := zO c m (d100 h) (by decide) 4 (by decide)
theorem wf104 (c : h_C) (m : h_M) {j : Nat} (h : vP j) (x : Int) : p_wZ (h_H c m) (h_A 100 j) 4 x = h_H (wc c 104 j 0 x) m := wO c m (d100 h) (by decide) 4 (by decide) x
theorem zf105 (c : h_C) (m : h_M) {j : Nat} (h : vP j) : p_Z (h_H c m) (h_A 100 j) 5 = c 105 j 0 := zO c m (d100 h) (by decide) 5 (by decide)
theorem wf105 (c : h_C) (m : h_M) {j : Nat} (h : vP j) (x : Int) : p_wZ (h_H c m) (h_A 100 j) 5 x = h_H (wc c 105 j 0 x) m := wO c m (d100 h) (by decide) 5 (by decide) x
theorem zf106 (c : h_C) (m : h_M) {j : Nat} (h : vP j) : p_Z (h_H c m) (h_A 100 j) 6 = c 106 j 0 := zO c m (d100 h) (by decide) 6 (by decide)
theorem wf106 (c : h_C) (m : h_M) {j : Nat} (h : vP j) (x : Int) : p_wZ (h_H c m) (h_A 100 j) 6 x = h_H (wc c 106 j 0 x) m := wO c m (d100 h) (by decide) 6 (by decide) x
theorem zf107 (c : h_C) (m : h_M) {j : Nat} (h : vP j) : p_Z (h_H c m) (h_A 100 j) 7 = c 107 j 0 := zO c m (d100 h) (by decide) 7 (by decide)
theorem wf107 (c : h_C) (m : h_M) {j : Nat} (h : vP j) (x : Int) : p_wZ (h_H c m) (h_A 100 j) 7 x = h_H (wc c 107 j 0 x) m := wO c m (d100 h) (by decide) 7 (by decide) x
theorem zf108 (c : h_C) (m : h_M) {j : Nat} (h : vP j) : p_Z (h_H c m) (h_A 100 j) 8 = c 108 j 0 := zO c m (d100 h) (by decide) 8 (by decide)
theorem wf108 (c : h_C) (m : h_M) {j : Nat} (h : vP j) (x : Int) : p_wZ (h_H c m) (h_A 100 j) 8 x = h_H (wc c 108 j 0 x) m := wO c m (d100 h) (by decide) 8 (by decide) x
theorem zf109 (c : h_C) (m : h_M) {j : Nat} (h : vP j) : p_Z (h_H c m) (h_A 100 j) 9 = c 109 j 0 := zO c m (d100 h) (by decide) 9 (by decide)
theorem wf109 (c : h_C) (m : h_M) {j : Nat} (h : vP j) (x : Int) : p_wZ (h_H c m) (h_A 100 j) 9 x = h_H (wc c 109 j 0 x) m := wO c m (d100 h) (by decide) 9 (by decide) x
theorem zf111 (c : h_C) (m : h_M) {j : Nat} (h : vP j) : p_Z (h_H c m) (h_A 100 j) 11 = c 111 j 0 := zO c m (d100 h) (by decide) 11 (by decide)
theorem wf111 (c : h_C) (m : h_M) {j : Nat} (h : vP j) (x : Int) : p_wZ (h_H c m) (h_A 100 j) 11 x = h_H (wc c 111 j 0 x) m := wO c m (d100 h) (by decide) 11 (by decide) x
theorem zf900 (c : h_C) (m : h_M) : p_Z (h_H c m) 1113 0 = c 900 0 0 := zO c m d900 (by decide) 0 (by decide)
theorem wf900 (c : h_C) (m : h_M) (x : Int) : p_wZ (h_H c m) 1113 0 x = h_H (wc c 900 0 0 x) m := wO c m d900 (by decide) 0 (by decide) x
theorem zf901 (c : h_C) (m : h_M) : p_Z (h_H c m) 1113 1 = c 901 0 0 := zO c m d900 (by decide) 1 (by decide)
theorem wf901 (c : h_C) (m : h_M) (x : Int) : p_wZ (h_H c m) 1113 1 x = h_H (wc c 901 0 0 x) m := wO c m d900 (by decide) 1 (by decide) x
theorem zf902 (c : h_C) (m : h_M) : p_Z (h_H c m) 1113 2 = c 902 0 0 := zO c m d900 (by decide) 2 (by decide)
theorem wf902 (c : h_C) (m : h_M) (x : Int) : p_wZ (h_H c m) 1113 2 x = h_H (wc c 902 0 0 x) m := wO c m d900 (by decide) 2 (by decide) x
theorem zf903 (c : h_C) (m : h_M) : p_Z (h_H c m) 1113 3 = c 903 0 0 := zO c m d900 (by decide) 3 (by decide)
theorem wf903 (c : h_C) (m : h_M) (x : Int) : p_wZ (h_H c m) 1113 3 x = h_H (wc c 903 0 0 x) m := wO c m d900 (by decide) 3 (by decide) x
theorem zf500 (c : h_C) (m : h_M) {j : Nat} (h : vR j) : p_Z (h_H c m) (h_A 500 j) 0 = c 500 j 0 := zO c m (d500 h) (by decide) 0 (by decide)
theorem wf500 (c : h_C) (m : h_M) {j : Nat} (h : vR j) (x : Int) : p_wZ (h_H c m) (h_A 500 j) 0 x = h_H (wc c 500 j 0 x) m := wO c m (d500 h) (by decide) 0 (by decide) x
theorem zf508 (c : h_C) (m : h_M) {j : Nat} (h : vR j) : p_Z (h_H c m) (h_A 500 j) 8 = c 508 j 0 := zO c m (d500 h) (by decide) 8 (by decide)
theorem wf508 (c : h_C) (m : h_M) {j : Nat} (h : vR j) (x : Int) : p_wZ (h_H c m) (h_A 500 j) 8 x = h_H (wc c 508 j 0 x) m := wO c m (d500 h) (by decide) 8 (by decide) x
theorem zf300 (c : h_C) (m : h_M) {j : Nat} (h : vW j) : p_Z (h_H c m) (h_A 300 j) 0 = c 300 j 0 := zO c m (d300 h) (by decide) 0 (by decide)
theorem wf300 (c : h_C) (m : h_M) {j : Nat} (h : vW j) (x : Int) : p_wZ (h_H c m) (h_A 300 j) 0 x = h_H (wc c 300 j 0 x) m := wO c m (d300 h) (by decide) 0 (by decide) x
theorem zf301 (c : h_C) (m : h_M) {j : Nat} (h : vW j) : p_Z (h_H c m) (h_A 300 j) 1 = c 301 j 0 := zO c m (d300 h) (by decide) 1 (by decide)
theorem wf301 (c : h_C) (m : h_M) {j : Nat} (h : vW j) (x : Int) : p_wZ (h_H c m) (h_A 300 j) 1 x = h_H (wc c 301 j 0 x) m := wO c m (d300 h) (by decide) 1 (by decide) x
theorem zf302 (c : h_C) (m : h_M) {j : Nat} (h : vW j) : p_Z (h_H c m) (h_A 300 j) 2 = c 302 j 0 := zO c m (d300 h) (by decide) 2 (by decide)
theorem wf302 (c : h_C) (m : h_M) {j : Nat} (h : vW j) (x : Int) : p_wZ (h_H c m) (h_A 300 j) 2 x = h_H (wc c 302 j 0 x) m := wO c m (d300 h) (by decide) 2 (by decide) x
theorem zf303 (c : h_C) (m : h_M) {j : Nat} (h : vW j) : p_Z (h_H c m) (h_A 300 j) 3 = c 303 j 0 := zO c m (d300 h) (by decide) 3 (by decide)
theorem wf303 (c : h_C) (m : h_M) {j : Nat} (h : vW j) (x : Int) : p_wZ (h_H c m) (h_A 300 j) 3 x = h_H (wc c 303 j 0 x) m := wO c m (d300 h) (by decide) 3 (by decide) x
theorem zf804 (c : h_C) (m : h_M) : p_Z (h_H c m) 1112 4 = c 804 0 0 := zO c m d800 (by decide) 4 (by decide)
theorem wf804 (c : h_C) (m : h_M) (x : Int) : p_wZ (h_H c m) 1112 4 x = h_H (wc c 804 0 0 x) m := wO c m d800 (by decide) 4 (by decide) x
theorem zf200 (c : h_C) (m : h_M) {j : Nat} (h : vW j) : p_Z (h_H c m) (h_A 200 j) 0 = c 200 j 0 := zO c m (d200 h) (by decide) 0 (by decide)
theorem wf200 (c : h_C) (m : h_M) {j : Nat} (h : vW j) (x : Int) : p_wZ (h_H c m) (h_A 200 j) 0 x = h_H (wc c 200 j 0 x) m := wO c m (d200 h) (by decide) 0 (by decide) x
theorem zf202 (c : h_C) (m : h_M) {j : Nat} (h : vW j) : p_Z (h_H c m) (h_A 200 j) 2 = c 202 j 0 := zO c m (d200 h) (by decide) 2 (by decide)
theorem wf202 (c : h_C) (m : h_M) {j : Nat} (h : vW j) (x : Int) : p_wZ (h_H c m) (h_A 200 j) 2 x = h_H (wc c 202 j 0 x) m := wO c m (d200 h) (by decide) 2 (by decide) x
theorem zf206 (c : h_C) (m : h_M) {j : Nat} (h : vW j) : p_Z (h_H c m) (h_A 200 j) 6 = c 206 j 0 := zO c m (d200 h) (by decide) 6 (by decide)
theorem wf206 (c : h_C) (m : h_M) {j : Nat} (h : vW j) (x : Int) : p_wZ (h_H c m) (h_A 200 j) 6 x = h_H (wc c 206 j 0 x) m := wO c m (d200 h) (by decide) 6 (by decide) x
theorem zf211 (c : h_C) (m : h_M) {j : Nat} (h : vW j) : p_Z (h_H c m) (h_A 200 j) 11 = c 211 j 0 := zO c m (d200 h) (by decide) 11 (by decide)
theorem wf211 (c : h_C) (m : h_M) {j : Nat} (h : vW j) (x : Int) : p_wZ (h_H c m) (h_A 200 j) 11 x = h_H (wc c 211 j 0 x) m := wO c m (d200 h) (by decide) 11 (by decide) x
theorem zf212 (c : h_C) (m : h_M) {j : Nat} (h : vW j) : p_Z (h_H c m) (h_A 200 j) 12 = c 212 j 0 := zO c m (d200 h) (by decide) 12 (by decide)
theorem wf212 (c : h_C) (m : h_M) {j : Nat} (h : vW j) (x : Int) : p_wZ (h_H c m) (h_A 200 j) 12 x = h_H (wc c 212 j 0 x) m := wO c m (d200 h) (by decide) 12 (by decide) x
theorem zf213 (c : h_C) (m : h_M) {j : Nat} (h : vW j) : p_Z (h_H c m) (h_A 200 j) 13 = c 213 j 0 := zO c m (d200 h) (by decide) 13 (by decide)
theorem wf213 (c : h_C) (m : h_M) {j : Nat} (h : vW j) (x : Int) : p_wZ (h_H c m) (h_A 200 j) 13 x = h_H (wc c 213 j 0 x) m := wO c m (d200 h) (by decide) 13 (by decide) x
theorem zf606 (c : h_C) (m : h_M) : p_Z (h_H c m) 1 6 = c 606 0 0 := zO c m d600 (by decide) 6 (by decide)
theorem wf606 (c : h_C) (m : h_M) (x : Int) : p_wZ (h_H c m) 1 6 x = h_H (wc c 606 0 0 x) m := wO c m d600 (by decide) 6 (by decide) x
theorem zf607 (c : h_C) (m : h_M) : p_Z (h_H c m) 1 7 = c 607 0 0 := zO c m d600 (by decide) 7 (by decide)
theorem wf607 (c : h_C) (m : h_M) (x : Int) : p_wZ (h_H c m) 1 7 x = h_H (wc c 607 0 0 x) m := wO c m d600 (by decide) 7 (by decide) x
theorem zf608 (c : h_C) (m : h_M) : p_Z (h_H c m) 1 8 = c 608 0 0 := zO c m d600 (by decide) 8 (by decide)
theorem wf608 (c : h_C) (m : h_M) (x : Int) : p_wZ (h_H c m) 1 8 x = h_H (wc c 608 0 0 x) m := wO c m d600 (by decide) 8 (by decide) x
theorem zs0 (c : h_C) (m : h_M) : p_Z (h_H c m) 1125 0 = m 100 0 := mzS c m 0 (by decide)
theorem ws0 (c : h_C) (m : h_M) (x : Int) : p_wZ (h_H c m) 1125 0 x = h_H c (wm m 100 0 x) := mwS c m 0 (by decide) x
theorem zs1 (c : h_C) (m : h_M) : p_Z (h_H c m) 1125 1 = m 101 0 := mzS c m 1 (by decide)
theorem ws1 (c : h_C) (m : h_M) (x : Int) : p_wZ (h_H c m) 1125 1 x = h_H c (wm m 101 0 x) := mwS c m 1 (by decide) x
theorem zs2 (c : h_C) (m : h_M) : p_Z (h_H c m) 1125 2 = m 102 0 := mzS c m 2 (by decide)
theorem ws2 (c : h_C) (m : h_M) (x : Int) : p_wZ (h_H c m) 1125 2 x = h_H c (wm m 102 0 x) := mwS c m 2 (by decide) x
theorem zs23 (c : h_C) (m : h_M) : p_Z (h_H c m) 1125 23 = m 123 0 := mzS c m 23 (by decide)
theorem ws23 (c : h_C) (m : h_M) (x : Int) : p_wZ (h_H c m) 1125 23 x = h_H c (wm m 123 0 x) := mwS c m 23 (by decide) x
theorem zs47 (c : h_C) (m : h_M) : p_Z (h_H c m) 1125 47 = m 147 0 := mzS c m 47 (by decide)
theorem ws47 (c : h_C) (m : h_M) (x : Int) : p_wZ (h_H c m) 1125 47 x = h_H c (wm m 147 0 x) := mwS c m 47 (by decide) x
theorem zs68 (c : h_C) (m : h_M) : p_Z (h_H c m) 1125 68 = m 168 0 := mzS c m 68 (by decide)
theorem ws68 (c : h_C) (m : h_M) (x : Int) : p_wZ (h_H c m) 1125 68 x = h_H c (wm m 168 0 x) := mwS c m 68 (by decide) x
theorem zs69 (c : h_C) (m : h_M) : p_Z (h_H c m) 1125 69 = m 169 0 := mzS c m 69 (by decide)
theorem ws69 (c : h_C) (m : h_M) (x : Int) : p_wZ (h_H c m) 1125 69 x = h_H c (wm m 169 0 x) := mwS c m 69 (by decide) x
theorem zs70 (c : h_C) (m : h_M) : p_Z (h_H c m) 1125 70 = m 170 0 := mzS c m 70 (by decide)
theorem ws70 (c : h_C) (m : h_M) (x : Int) : p_wZ (h_H c m) 1125 70 x = h_H c (wm m 170 0 x) := mwS c m 70 (by decide) x
theorem zs71 (c : h_C) (m : h_M) : p_Z (h_H c m) 1125 71 = m 171 0 := mzS c m 71 (by decide)
theorem ws71 (c : h_C) (m : h_M) (x : Int) : p_wZ (h_H c m) 1125 71 x = h_H c (wm m 171 0 x) := mwS c m 71 (by decide) x
theorem zs72 (c : h_C) (m : h_M) : p_Z (h_H c m) 1125 72 = m 172 0 := mzS c m 72 (by decide)
theorem ws72 (c : h_C) (m : h_M) (x : Int) : p_wZ (h_H c m) 1125 72 x = h_H c (wm m 172 0 x) := mwS c m 72 (by decide) x
theorem zs73 (c : h_C) (m : h_M) : p_Z (h_H c m) 1125 73 = m 173 0 := mzS c m 73 (by decide)
theorem ws73 (c : h_C) (m : h_M) (x : Int) : p_wZ (h_H c m) 1125 73 x = h_H c (wm m 173 0 x) := mwS c m 73 (by decide) x
theorem zs75 (c : h_C) (m : h_M) : p_Z (h_H c m) 1125 75 = m 175 0 := mzS c m 75 (by decide)
theorem ws75 (c : h_C) (m : h_M) (x : Int) : p_wZ (h_H c m) 1125 75 x = h_H c (wm m 175 0 x) := mwS c m 75 (by decide) x
theorem zs76 (c : h_C) (m : h_M) : p_Z (h_H c m) 1125 76 = m 176 0 := mzS c m 76 (by decide)
theorem ws76 (c : h_C) (m : h_M) (x : Int) : p_wZ (h_H c m) 1125 76 x = h_H c (wm m 176 0 x) := mwS c m 76 (by decide) x
theorem zs77 (c : h_C) (m : h_M) : p_Z (h_H c m) 1125 77 = m 177 0 := mzS c m 77 (by decide)
theorem ws77 (c : h_C) (m : h_M) (x : Int) : p_wZ (h_H c m) 1125 77 x = h_H c (wm m 177 0 x) := mwS c m 77 (by decide) x
theorem zs78 (c : h_C) (m : h_M) : p_Z (h_H c m) 1125 78 = m 178 0 := mzS c m 78 (by decide)
theorem ws78 (c : h_C) (m : h_M) (x : Int) : p_wZ (h_H c m) 1125 78 x = h_H c (wm m 178 0 x) := mwS c m 78 (by decide) x
theorem zs80 (c : h_C) (m : h_M) : p_Z (h_H c m) 1125 80 = m 180 0 := mzS c m 80 (by decide)
theorem ws80 (c : h_C) (m : h_M) (x : Int) : p_wZ (h_H c m) 1125 80 x = h_H c (wm m 180 0 x) := mwS c m 80 (by decide) x
theorem zs84 (c : h_C) (m : h_M) : p_Z (h_H c m) 1125 84 = m 184 0 := mzS c m 84 (by decide)
theorem ws84 (c : h_C) (m : h_M) (x : Int) : p_wZ (h_H c m) 1125 84 x = h_H c (wm m 184 0 x) := mwS c m 84 (by decide) x
theorem zs85 (c : h_C) (m : h_M) : p_Z (h_H c m) 1125 85 = m 185 0 := mzS c m 85 (by decide)
theorem ws85 (c : h_C) (m : h_M) (x : Int) : p_wZ (h_H c m) 1125 85 x = h_H c (wm m 185 0 x) := mwS c m 85 (by decide) x
theorem zs86 (c : h_C) (m : h_M) : p_Z (h_H c m) 1125 86 = m 186 0 := mzS c m 86 (by decide)
theorem ws86 (c : h_C) (m : h_M) (x : Int) : p_wZ (h_H c m) 1125 86 x = h_H c (wm m 186 0 x) := mwS c m 86 (by decide) x
theorem zs87 (c : h_C) (m : h_M) : p_Z (h_H c m) 1125 87 = m 187 0 := mzS c m 87 (by decide)
theorem ws87 (c : h_C) (m : h_M) (x : Int) : p_wZ (h_H c m) 1125 87 x = h_H c (wm m 187 0 x) := mwS c m 87 (by decide) x
theorem zs89 (c : h_C) (m : h_M) : p_Z (h_H c m) 1125 89 = m 189 0 := mzS c m 89 (by decide)
theorem ws89 (c : h_C) (m : h_M) (x : Int) : p_wZ (h_H c m) 1125 89 x = h_H c (wm m 189 0 x) := mwS c m 89 (by decide) x
theorem bvS {β γ : Type} {x : Option p_Hp} {e' : h_C} {m : h_M} {k : p_Hp → Option β} {k' : h_C → Option γ} {r : Option β} {r' : γ} (hx : x = some (h_H e' m)) (h : p_bi e' k' = some r') (hk : ∀ c, k' c = some r' → k (h_H c m) = r) : p_bv x k = r := by
  subst hx
  exact hk e' h

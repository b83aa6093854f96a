/** Each promise of the document by calls whose answers were worked out by hand. */
public final class PromisesTest extends Asking {
    private static void newObject() {
        PatternBench x = new PatternBench(100);
        for (int what = 0; what <= 1; what++) {
            due("1: count " + what, x.count(what), 0);
        }
        due("1: count 2", x.count(2), NONE);
        due("1: count 3", x.count(3), NONE);
        due("1: steps", x.steps(), 0);
        due("1: start 0", x.start(0), UNSET);
        due("1: end 4", x.end(4), UNSET);
        due("1: search", x.search(0), REFUSED);
        due("1: matches", x.matches(), REFUSED);
        due("1: again", x.again(), NONE);
        due("1: clear", x.clear(), 0);
        int[][] clamped = {{MIN, 20}, {-1, 20}, {0, 20}, {19, 20}, {20, 20}, {21, 21}, {299, 299}, {300, 300}, {301, 300}, {MAX, 300}};
        for (int[] pair : clamped) {
            PatternBench y = bench(pair[0], "(a*)*b", "aaaaaaaaaaaaaaaaaaaa");
            due("1: limit " + pair[0] + ": search", y.search(0), STOPPED);
            due("1: limit " + pair[0] + ": steps", y.steps(), pair[1]);
        }
    }

    private static void writing() {
        String all = "abcdefghijklmnopqrstuvwxyz0123456789|()?:=!>[]-^$.*+{}\\";
        for (int code = -300; code <= 66000; code++) {
            PatternBench x = new PatternBench(20);
            boolean may = code >= 0 && code < 128 && all.indexOf((char) code) >= 0;
            due("2: write " + code, x.write(code), may ? 1 : REFUSED);
            due("2: count 0 after " + code, x.count(0), may ? 1 : 0);
        }
        PatternBench x = new PatternBench(20);
        for (int k = 1; k <= 32; k++) {
            due("2: write", x.write('a'), k);
        }
        due("2: the 33rd", x.write('a'), FULL);
        due("2: refused before full", x.write('A'), REFUSED);
        due("2: refused before full", x.write(MIN), REFUSED);
        due("2: refused before full", x.write(MAX), REFUSED);
        due("2: still 32", x.count(0), 32);
        due("2: all of them count", x.compile(), 0);
        due("2: all of them count", x.count(3), 32);
        due("2: empty afterwards", x.count(0), 0);
        due("2: begins anew", x.write('b'), 1);
    }

    private static void goodPatterns() {
        good("", 0, 0);
        good("|", 0, 1);
        good("||", 0, 2);
        good("abc", 0, 3);
        good("a|b|", 0, 4);
        good("()", 1, 2);
        good("(|)", 1, 3);
        good("(?:)(?=)(?!)(?>)", 0, 8);
        good("(?:a|b)", 0, 5);
        good("a*b*?c*+", 0, 9);
        good("a+b+?c++", 0, 12);
        good("a?b??c?+", 0, 9);
        good("a{0}a{9}a{2}?a{3}+", 0, 18);
        good("(ab)+", 1, 10);
        good("(ab){3}", 1, 13);
        good("(ab){0}", 1, 1);
        good("(ab)?", 1, 6);
        good("^*$+.?", 0, 10);
        good("(a)\\1*(?1)+(?0)?", 1, 13);
        good("\\1(a)", 1, 4);
        good("(?4)()()()()", 4, 9);
        good("\\4()()()()", 4, 9);
        good("[abcdefghijklmnopqrstuvwxyzabcd]", 0, 1);
        good("|".repeat(32), 0, 32);
        good("(?:|)".repeat(6), 0, 18);
        good("(?2)\\2((a)(?1))", 2, 8);
    }

    private static void sizesAtTheEdge() {
        good("(?:(?:|a){4}){3}(?!)", 0, 60);
        good("a{9}a{9}a{9}a{9}a{9}a{9}", 0, 60);
        PatternBench x = new PatternBench(20);
        compile(x, "(a)");
        feed(x, "ba");
        x.search(0);
        due("3: SIZE 61", compile(x, "a{9}a{9}a{9}a{9}a{9}a{9}a"), FULL);
        due("3: SIZE 61 is taken", x.count(0), 0);
        due("3: SIZE 61 leaves the ready one", x.count(3), 3);
        due("3: SIZE 61 leaves the match", x.start(1), 1);
        due("3: a SIZE far above", compile(x, "((((a{9}){9}){9}){9})"), FULL);
        due("3: wrong before full", compile(x, "((((a{9}){9}){9}){9}){9"), WRONG);
        due("3: WRONG leaves the ready one", x.count(2), 1);
        due("3: WRONG leaves the match", x.end(0), 2);
        due("3: a good one", compile(x, "b"), 0);
        due("3: a good one is in its place", x.count(3), 1);
        due("3: a good one ends the match", x.start(0), UNSET);
        due("3: steps stay", x.steps(), 4);
        due("3: the new one is searched", x.search(0), 0);
    }

    private static void wrongPatterns() {
        String[] all = {
            "*", "+a", "?", "{2}", "a**", "a*??", "a*?+", "a?+?", "a+++", "a{2}{2}", "a{2}*", "a{", "a{2", "a{}", "a{a}",
            "a{10}", "a{2}++", "a}", "}", "]", "-", ":", "=", "!", ">", "a-b", "0", "a1", "(", ")", "a)", "(a", "(a))",
            "(*a)", "(|*)", "a|*", "(?", "(?)", "(?a)", "(?-)", "(??)", "(?:", "(?:a", "(?=a", "(?|a)", "(?1", "(?12)", "(?0",
            "(?5)", "(?9)", "(?1)", "(?2)(a)", "(?4)()()()", "()(?1(", "\\", "\\0", "\\5", "\\9", "\\a", "\\1", "(a)\\2", "\\(",
            "[", "[]", "[^", "[^]", "[a", "[a-", "[a-]", "[-a]", "[b-a]", "[a-b-c]", "[^^a]", "[a^]", "[.]", "[a|b]", "[1]",
            "[a-9]", "[a]]", "[z-a]", "[ab-a]", "[ab-a", "[b-ac]", "a{2)", "(a{2)", "()()()()()", "(((((a)))))", "(?:(?:(?:(?:(?:(?:(?:)))))))", "(?>(?=(?!(?:(((a)))))))",
        };
        isWrong(all);
        for (String pattern : all) {
            PatternBench x = new PatternBench(20);
            compile(x, pattern);
            due("3: a good one after " + pattern, compile(x, "(a)"), 1);
        }
    }

    private static void oneBehindTheOther() {
        PatternBench x = new PatternBench(300);
        feed(x, "aab");
        for (int k = 0; k < 3; k++) {
            due("3: many on one object", compile(x, "(a*+|" + "b".repeat(20) + ")b??"), 1);
            due("3: many on one object", x.search(0), 0);
            due("3: many on one object", x.end(0), 2);
            due("3: many on one object", compile(x, "||a" + "|a".repeat(14)), 0);
            due("3: many on one object", x.matches(), 4);
            due("3: many on one object", compile(x, "a".repeat(32)), 0);
            due("3: many on one object", x.search(0), NONE);
            due("3: many on one object", compile(x, "aab" + "c{0}".repeat(7)), 0);
            due("3: many on one object", x.search(0), 0);
        }
    }

    private static void compiling() {
        oneBehindTheOther();
        goodPatterns();
        sizesAtTheEdge();
        wrongPatterns();
        good("(?:(?:(?:(?:(?:(?:))))))", 0, 12);
        good("(?:(?=(?!(?>(((?2)))))))", 2, 13);
    }

    private static void feeding() {
        PatternBench x = new PatternBench(20);
        int[] refused = {MIN, -97, 0, 64, 65, 96, 123, 256 + 97, 65536 + 97, MAX};
        for (int k = 1; k <= 40; k++) {
            due("4: feed", x.feed(k % 2 == 0 ? 'a' : 'z'), k);
        }
        compile(x, "za$");
        due("4: all of them count", x.search(28), STOPPED);
        due("4: all of them count", x.search(30), 38);
        due("4: the 41st", x.feed('a'), FULL);
        due("4: FULL leaves the match", x.start(0), 38);
        for (int letter : refused) {
            due("4: feed " + letter, x.feed(letter), REFUSED);
        }
        due("4: REFUSED leaves the match", x.end(0), 40);
        due("4: still 40", x.count(1), 40);
        PatternBench y = bench(20, "a", "a");
        y.search(0);
        due("4: feed", y.feed('b'), 2);
        due("4: ends the match", y.start(0), UNSET);
        due("4: ends the match", y.again(), NONE);
    }

    private static void clearing() {
        PatternBench x = bench(20, "a", "aab");
        x.search(0);
        due("5: clear", x.clear(), 3);
        due("5: empty", x.count(1), 0);
        due("5: ends the match", x.end(0), UNSET);
        due("5: leaves the steps", x.steps(), 1);
        due("5: no letter is left", x.search(0), NONE);
        due("5: no place is left", x.search(1), REFUSED);
        due("5: clear again", x.clear(), 0);
        due("5: the pattern stays", x.count(3), 1);
        due("5: feed begins anew", x.feed('a'), 1);
        due("5: and is found", x.search(0), 0);
    }

    private static void simpleAtoms() {
        finds("", "", 0, 0, 0);
        finds("", "ab", 0, 0, 0);
        finds("abc", "xabc", 1, 4, 4);
        finds(".", "q", 0, 1, 1);
        findsNone(".", "", 1);
        finds("[b-dx]", "aex", 2, 3, 3);
        finds("[^b-dx]", "bcdxa", 4, 5, 5);
        findsNone("[^a]", "", 1);
        findsNone("[^a-z]", "az", 3);
        finds("[a-a]z", "az", 0, 2, 2);
        finds("^a", "ab", 0, 1, 2);
        findsNone("^b", "ab", 4);
        finds("b$", "bab", 2, 3, 5);
        finds("$", "ab", 2, 2, 3);
        finds("a|b", "cb", 1, 2, 4);
        finds("a||b", "b", 0, 0, 1);
    }

    private static void groupsAndReferences() {
        finds("(a|ab)(c|bcd)(d*)", "abcd", 0, 4, 9, 0, 1, 1, 4, 4, 4);
        finds("((a)(b))\\3", "abb", 0, 3, 6, 0, 2, 0, 1, 1, 2);
        findsNone("\\1(a)", "aa", 3);
        finds("(a*)\\1$", "aaaa", 0, 4, 10, 0, 2);
        finds("()\\1a", "a", 0, 1, 3, 0, 0);
        finds("(a|b\\1)+", "aba", 0, 3, 9, 1, 3);
        finds("(ab)\\1", "abaabab", 3, 7, 13, 3, 5);
        findsNone("(ab)\\1", "aba", 11);
        findsNone("(ab)\\1", "abcb", 12);
        finds("c|(a)b", "ac", 1, 2, 5);
        finds("(?:(a)|b)*", "ab", 0, 2, 11, 0, 1);
    }

    private static void repeats() {
        finds("a*", "aab", 0, 2, 3);
        finds("a*?b", "aab", 0, 3, 5);
        finds("a+?", "aa", 0, 1, 1);
        finds("a+", "aa", 0, 2, 3);
        finds("a??b", "ab", 0, 2, 3);
        finds("a?b", "b", 0, 1, 2);
        finds("a{3}", "aaaa", 0, 3, 3);
        finds("a{2}?b", "aab", 0, 3, 3);
        finds("a{0}b", "b", 0, 1, 1);
        finds("a{0}+b", "b", 0, 1, 1);
        findsNone("a*+a", "aa", 9);
        findsNone("a?+a", "a", 4);
        findsNone("(a|ab){1}+c", "abc", 12);
        finds("(a|ab){1}c", "abc", 0, 3, 6, 0, 2);
        findsNone("a++a", "aa", 8);
    }

    private static void emptyTurns() {
        finds("(|a)*", "aa", 0, 0, 1, 0, 0);
        finds("(a|)*", "aa", 0, 2, 6, 2, 2);
        finds("(|a)+", "aa", 0, 0, 2, 0, 0);
        finds("(|a)*a$", "aa", 0, 2, 7, 1, 1);
        finds("(|a){3}b", "aab", 0, 3, 11, 1, 2);
    }

    private static void lookingAndAtoms() {
        finds("(?=(a))", "a", 0, 0, 3, 0, 1);
        finds("(?=(a*))\\1b", "aab", 0, 3, 7, 0, 2);
        findsNone("(?=(a|aa))\\1$", "aab", 18);
        finds("(?!(a))b", "b", 0, 1, 4);
        finds("(?!a).", "ab", 1, 2, 5);
        findsNone("(?!)", "a", 2);
        findsNone("(?>a|ab)c", "abc", 12);
        finds("(?>ab|a)c", "abc", 0, 3, 4);
        finds("(?>(a))\\1", "aa", 0, 2, 4, 0, 1);
        finds("(?!(?!(a)))a", "a", 0, 1, 5);
    }

    private static void calls() {
        String forty = "a".repeat(40);
        finds("(a(?1)?b)", "aabb", 0, 4, 8, 0, 4);
        finds("(a(?1)?)", forty, 0, 13, 27, 0, 13);
        finds("a(?0)?", forty, 0, 13, 26);
        finds("(a)(?1){9}(?1){9}", forty, 0, 19, 38, 0, 1);
        finds("(?1)(a){0}", "a", 0, 1, 2);
        finds("(a)(?2)(\\1){0}", "aa", 0, 2, 4, 0, 1);
        finds("^(?1)ab(a*){0}", "aaab", 0, 4, 9);
        findsNone("(?0)", "", 13);
        finds("((a)|b(?1)\\2)", "ba", 1, 2, 12, 1, 2, 1, 2);
        finds("((a)|b(?1)\\2)", "baa", 1, 2, 12, 1, 2, 1, 2);
        finds("(?:(?1)|(a))", "a", 0, 1, 3);
        finds("(?=(?1))(a|b)\\1", "bb", 0, 2, 8, 0, 1);
    }

    private static void searching() {
        simpleAtoms();
        groupsAndReferences();
        repeats();
        emptyTurns();
        lookingAndAtoms();
        calls();
        PatternBench x = bench(20, "a", "aba");
        int[] refused = {MIN, -1, 4, 40, MAX};
        due("6: search 1", x.search(1), 2);
        for (int from : refused) {
            due("6: search " + from, x.search(from), REFUSED);
        }
        due("6: REFUSED leaves the match", x.start(0), 2);
        due("6: REFUSED leaves the steps", x.steps(), 2);
        due("6: from the length", x.search(3), NONE);
        due("6: NONE ends the match", x.start(0), UNSET);
        due("6: no match to go on from", x.again(), NONE);
        PatternBench z = bench(300, "(?:a|b)c?", "ab");
        due("6: a match that leaves choices", z.search(0), 0);
        due("6: they are no longer there", z.search(2), NONE);
        PatternBench y = bench(20, "(a*)*b", "aaaaaaaab");
        due("6: a match at first", y.search(8), 8);
        due("6: STOPPED", compile(y, "(a*)*c") == 1 ? y.search(0) : 0, STOPPED);
        due("6: STOPPED ends the match", y.end(0), UNSET);
        due("6: STOPPED has nothing to go on from", y.again(), NONE);
    }

    private static void goingOn() {
        PatternBench x = bench(300, "a", "abaa");
        due("7: again without a search", x.again(), NONE);
        due("7: search", x.search(0), 0);
        due("7: again", x.again(), 2);
        due("7: its steps", x.steps(), 2);
        due("7: again", x.again(), 3);
        due("7: from the end of the subject", x.again(), NONE);
        due("7: that was a search", x.steps(), 1);
        due("7: no match", x.end(0), UNSET);
        PatternBench y = bench(300, "a*", "ab");
        due("7: search", y.search(0), 0);
        due("7: an empty match", y.again(), 1);
        due("7: its end", y.end(0), 1);
        due("7: one place on", y.again(), 2);
        due("7: steps", y.steps(), 1);
        due("7: above the length", y.again(), NONE);
        due("7: no steps", y.steps(), 0);
        due("7: no match", y.start(0), UNSET);
        PatternBench z = bench(20, "a|(b*)*c", "abbbbbbbbbbbbbb");
        due("7: search", z.search(0), 0);
        due("7: STOPPED", z.again(), STOPPED);
        due("7: no match", z.start(0), UNSET);
        due("7: steps", z.steps(), 20);
    }

    private static void placesOfGroups() {
        PatternBench x = bench(300, "b(a)?(c)(d)?", "bc");
        int[] refused = {MIN, -1, 5, MAX};
        for (int group : refused) {
            due("8: start " + group, x.start(group), REFUSED);
            due("9: end " + group, x.end(group), REFUSED);
        }
        due("8: before a search", x.start(0), UNSET);
        due("9: before a search", x.end(0), UNSET);
        x.search(0);
        int[] starts = {0, UNSET, 1, UNSET, UNSET};
        int[] ends = {2, UNSET, 2, UNSET, UNSET};
        for (int group = 0; group <= 4; group++) {
            due("8: start " + group, x.start(group), starts[group]);
            due("9: end " + group, x.end(group), ends[group]);
        }
        for (int group : refused) {
            due("8: start " + group, x.start(group), REFUSED);
            due("9: end " + group, x.end(group), REFUSED);
        }
        finds("(((.*)b).*)", "a".repeat(36) + "baaa", 0, 40, 53, 0, 40, 0, 37, 0, 36);
        finds(".{9}.{9}.{9}.{9}...(.)", "c".repeat(40), 0, 40, 41, 39, 40);
        finds("$()()()()", "c".repeat(40), 40, 40, 45, 40, 40, 40, 40, 40, 40, 40, 40);
    }

    private static void countingSteps() {
        PatternBench x = bench(21, "a*b", "aaaaaaaaa");
        due("10: before the first search", x.steps(), 0);
        due("10: 11 steps of the first place, then 10", x.search(0), STOPPED);
        due("10: LIMIT", x.steps(), 21);
        PatternBench y = bench(20, "a{9}a{9}a", "a".repeat(20));
        due("10: below LIMIT", y.search(0), 0);
        due("10: below LIMIT", y.steps(), 19);
        compile(y, "a{9}a{9}aa");
        due("10: compile leaves the steps", y.steps(), 19);
        due("10: just LIMIT", y.search(0), 0);
        due("10: just LIMIT", y.steps(), 20);
        y.feed('a');
        due("10: feed leaves the steps", y.steps(), 20);
        compile(y, "a{9}a{9}aaa");
        due("10: one more", y.search(0), STOPPED);
        due("10: one more", y.steps(), 20);
        due("10: an again that makes none", y.again(), NONE);
        due("10: an again that makes none", y.steps(), 0);
    }

    private static int matches(int limit, String pattern, String subject, int steps) {
        PatternBench x = bench(limit, pattern, subject);
        x.search(0);
        int answer = x.matches();
        due("11: no match after " + pattern, x.start(0), UNSET);
        due("11: steps after " + pattern, x.steps(), steps);
        due("11: nothing to go on from after " + pattern, x.again(), NONE);
        return answer;
    }

    private static void countingMatches() {
        due("11: none", matches(300, "c", "ab", 3), 0);
        due("11: some", matches(300, "a", "abaab", 2), 3);
        due("11: empty ones", matches(300, "", "abc", 0), 4);
        due("11: at each place", matches(300, "(?=.|$)", "a".repeat(40), 3), 41);
        due("11: of the empty subject", matches(300, "^$", "", 2), 1);
        due("11: empty and not", matches(300, "a*", "aba", 1), 4);
        due("11: stopped at once", matches(20, "(a*)*c", "aaaaaaaaaaaa", 20), STOPPED);
        due("11: stopped later", matches(20, "a|(b*)*c", "aabbbbbbbbbbbbbb", 20), STOPPED);
        PatternBench x = new PatternBench(20);
        due("11: no pattern", x.matches(), REFUSED);
        due("11: no pattern", x.steps(), 0);
    }

    private static void counting() {
        PatternBench x = bench(20, "(a)+", "aab");
        write(x, "[[[[");
        int[] due = {4, 3, 1, 8};
        for (int what = 0; what < 4; what++) {
            due("12: count " + what, x.count(what), due[what]);
        }
        int[] refused = {MIN, -1, 4, MAX};
        for (int what : refused) {
            due("12: count " + what, x.count(what), REFUSED);
        }
    }

    private static void constants() {
        int[] all = {REFUSED, FULL, WRONG, NONE, STOPPED, UNSET};
        for (int k = 0; k < all.length; k++) {
            due("constant " + k, all[k], -1 - k);
        }
    }

    public static void main(String[] args) {
        constants();
        newObject();
        writing();
        compiling();
        feeding();
        clearing();
        searching();
        goingOn();
        placesOfGroups();
        countingSteps();
        countingMatches();
        counting();
        tell();
    }
}

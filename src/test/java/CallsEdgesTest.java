import java.util.Arrays;

/**
 * The sentences of promises 1 to 12 that name a boundary case, the one about REFUSED, and the
 * number of calls that an object is used for. Each one has a test of its own.
 */
public final class CallsEdgesTest extends Asking {
    private static final int[] NO_GROUP = {MIN, MIN + 1, -65536, -256, -6, -1, 5, 6, 256, 65536, 65537, MAX};
    private static final int[] NO_LETTER = {MIN, MIN + 97, -97, -1, 0, 32, 48, 64, 65, 90, 96, 123, 124, 97 + 128, 97 + 256, 97 + 65536, MAX};

    /** All that can be asked for without a change. */
    private static int[] state(PatternBench x) {
        int[] all = new int[15];
        for (int k = 0; k < 4; k++) {
            all[k] = x.count(k);
        }
        for (int group = 0; group <= 4; group++) {
            all[4 + group] = x.start(group);
            all[9 + group] = x.end(group);
        }
        all[14] = x.steps();
        return all;
    }

    private static void same(String what, int[] got, int[] want) {
        due(what + " state " + Arrays.toString(got) + " as " + Arrays.toString(want) + ": this", Arrays.equals(got, want) ? 1 : 0, 1);
    }

    private static void places(String what, PatternBench x, int... startsAndEnds) {
        for (int group = 0; group <= 4; group++) {
            boolean told = 2 * group < startsAndEnds.length;
            due(what + " start " + group, x.start(group), told ? startsAndEnds[2 * group] : UNSET);
            due(what + " end " + group, x.end(group), told ? startsAndEnds[2 * group + 1] : UNSET);
        }
    }

    /** An object in one of ten states, the same each time. */
    private static PatternBench inState(int number) {
        PatternBench x = new PatternBench(20);
        if (number == 0) {
            return x;
        }
        write(x, number == 1 ? "(((" : "(a)(b)?");
        if (number <= 2) {
            feed(x, a(number));
            return x;
        }
        x.compile();
        feed(x, number == 3 ? a(40) : number == 4 ? b(40) : number == 5 ? b(5) : "baab");
        write(x, number == 6 ? a(32) : "a*");
        if (number != 7) {
            x.search(number == 8 ? 4 : 0);
        }
        if (number == 9) {
            x.again();
        }
        return x;
    }

    private static void refuseAll(PatternBench x, int length) {
        int[] noCharacter = {MIN, MIN + 97, -97, -1, 0, 32, 44, 47, 59, 64, 65, 90, 95, 96, 126, 127, 97 + 256, 40 + 65536, MAX};
        int[] noPlace = {MIN, MIN + 1, -65536, -256, -2, -1, length + 1, length + 2, 41, 256, 65536, MAX};
        int[] noCount = {MIN, MIN + 1, -65536, -256, -2, -1, 4, 5, 256, 65536, MAX};
        for (int code : noCharacter) {
            due("write " + code, x.write(code), REFUSED);
        }
        for (int letter : NO_LETTER) {
            due("feed " + letter, x.feed(letter), REFUSED);
        }
        for (int from : noPlace) {
            due("search " + from, x.search(from), REFUSED);
        }
        for (int group : NO_GROUP) {
            due("start " + group, x.start(group), REFUSED);
            due("end " + group, x.end(group), REFUSED);
        }
        for (int what : noCount) {
            due("count " + what, x.count(what), REFUSED);
        }
    }

    // Calls answer REFUSED for numbers out of range

    private static void refusedCallsChangeNothing() {
        for (int number = 0; number < 10; number++) {
            PatternBench x = inState(number);
            PatternBench twin = inState(number);
            refuseAll(x, twin.count(1));
            same("after refused calls, in state " + number, state(x), state(twin));
            due("again after them", x.again(), twin.again());
            same("after again, in state " + number, state(x), state(twin));
            due("search after them", x.search(0), twin.search(0));
            same("after search, in state " + number, state(x), state(twin));
            due("compile after them", x.compile(), twin.compile());
            same("after compile, in state " + number, state(x), state(twin));
            due("matches after them", x.matches(), twin.matches());
            same("after matches, in state " + number, state(x), state(twin));
        }
    }

    private static void testedFirst() {
        PatternBench full = new PatternBench(20);
        write(full, a(32));
        feed(full, a(40));
        due("write that could be FULL", full.write('A'), REFUSED);
        due("feed that could be FULL", full.feed('A'), REFUSED);
        due("write that is FULL", full.write('a'), FULL);
        due("feed that is FULL", full.feed('a'), FULL);
        PatternBench fresh = new PatternBench(20);
        due("start that could be UNSET", fresh.start(5), REFUSED);
        due("end that could be UNSET", fresh.end(-1), REFUSED);
        due("count that could be NONE", fresh.count(4), REFUSED);
        due("start that is UNSET", fresh.start(4), UNSET);
        due("end that is UNSET", fresh.end(0), UNSET);
        due("count that is NONE", fresh.count(3), NONE);
    }

    private static void fiveHundredAndTwelveCalls() {
        PatternBench x = new PatternBench(300);
        int calls = 0;
        for (int k = 1; k <= 40; k++, calls++) {
            due("feed", x.feed('a'), k);
        }
        String dear = "(a*)*b";
        for (; calls + 59 <= 500; calls += 59) {
            for (int k = 0; k < dear.length(); k++) {
                due("write", x.write(dear.charAt(k)), k + 1);
            }
            due("compile", x.compile(), 1);
            for (int k = 0; k < 26; k++) {
                due("search of call " + (calls + 2 * k), x.search(k % 2), STOPPED);
                due("steps of call " + (calls + 2 * k), x.steps(), 300);
            }
        }
        write(x, "b");
        calls += 1;
        due("compile", x.compile(), 0);
        calls += 1;
        for (; calls < 511; calls++) {
            due("search", x.search(40), NONE);
        }
        due("the call number " + calls, calls, 511);
        due("the last call", x.search(0), NONE);
    }

    // Promise 1

    private static void limitIsClamped() {
        int[] limits = {MIN, MIN + 1, -300, -21, -1, 0, 1, 18, 19, 20, 21, 22, 150, 298, 299, 300, 301, 302, 65536 + 20, MAX - 1, MAX};
        for (int limit : limits) {
            int clamped = limit < 20 ? 20 : limit > 300 ? 300 : limit;
            PatternBench x = bench(limit, "(a*)*b", a(40));
            due("search with " + limit, x.search(0), STOPPED);
            due("steps with " + limit, x.steps(), clamped);
        }
        String nine = "b|b|b|b|b|b|b|b|b|";
        due("300 steps with 301", bench(301, nine + "b", a(29)).search(0), NONE);
        due("301 steps with 301", bench(301, "$b|" + nine.substring(2) + "b", a(29)).search(0), STOPPED);
        due("20 steps with 19", bench(19, "b", a(19)).search(0), NONE);
        due("21 steps with 19", bench(19, "b", a(20)).search(0), STOPPED);
    }

    private static void noPatternAtFirst() {
        PatternBench x = new PatternBench(300);
        due("search", x.search(0), REFUSED);
        due("matches", x.matches(), REFUSED);
        due("groups", x.count(2), NONE);
        due("SIZE", x.count(3), NONE);
        due("characters", x.count(0), 0);
        due("letters", x.count(1), 0);
        due("compile makes one ready", x.compile(), 0);
        due("search", x.search(0), 0);
    }

    private static void noMatchAtFirst() {
        PatternBench x = new PatternBench(20);
        noMatch("new", x);
        due("again", x.again(), NONE);
        due("steps", x.steps(), 0);
        noMatch("new, after again", x);
    }

    private static void objectsApart() {
        PatternBench x = bench(300, "a", "ba");
        PatternBench y = new PatternBench(300);
        due("search", x.search(0), 1);
        due("another object has no pattern", y.search(0), REFUSED);
        due("nor a subject", y.count(1), 0);
        noMatch("another object", y);
    }

    // Promise 2

    private static void thirtyThirdCharacter() {
        PatternBench x = new PatternBench(20);
        write(x, a(31));
        due("the 32nd", x.write('b'), 32);
        for (int k = 0; k < 3; k++) {
            due("one more", x.write('*'), FULL);
            due("characters", x.count(0), 32);
        }
        due("compile", x.compile(), 0);
        due("SIZE, with no '*' in it", x.count(3), 32);
        due("there is room again", x.write('a'), 1);
    }

    private static void lengthOfThePattern() {
        PatternBench x = new PatternBench(20);
        for (int k = 1; k <= 32; k++) {
            due("write", x.write(')'), k);
            due("characters", x.count(0), k);
        }
    }

    private static void writingLeavesTheRest() {
        PatternBench x = bench(300, "(a)", "ba");
        x.search(0);
        int[] before = state(x);
        due("write", x.write('b'), 1);
        before[0] = 1;
        same("after write", state(x), before);
        write(x, a(31));
        due("FULL", x.write('b'), FULL);
        before[0] = 32;
        same("after FULL", state(x), before);
    }

    // Promise 3

    private static void emptyWhateverTheAnswer() {
        String[] patterns = {"ab", "", "a)", "(", "a{9}a{9}a{9}a{9}a{9}a{9}a", a(32), "(".repeat(32)};
        int[] answers = {0, 0, WRONG, WRONG, FULL, 0, WRONG};
        for (int k = 0; k < patterns.length; k++) {
            PatternBench x = new PatternBench(20);
            due("compile " + patterns[k], compile(x, patterns[k]), answers[k]);
            due("characters after " + patterns[k], x.count(0), 0);
            due("write after " + patterns[k], x.write('b'), 1);
            due("compile after " + patterns[k], x.compile(), 0);
            due("SIZE of what was written since", x.count(3), 1);
        }
    }

    private static void nothingWritten() {
        PatternBench x = bench(300, "(a)b", "ab");
        due("search", x.search(0), 0);
        due("the empty pattern is good", x.compile(), 0);
        due("its groups", x.count(2), 0);
        due("its SIZE", x.count(3), 0);
        noMatch("after compile", x);
        due("its matches", x.matches(), 3);
    }

    private static void wrongBeforeFull() {
        PatternBench x = new PatternBench(20);
        due("large and not good", compile(x, "((((a{9}){9}){9}){9}){9"), WRONG);
        due("large and not good at its end", compile(x, "a{9}a{9}a{9}a{9}a{9}a{9}a\\1"), WRONG);
        due("large and good", compile(x, "a{9}a{9}a{9}a{9}a{9}a{9}aa"), FULL);
    }

    private static void inPlaceOfTheOneBefore() {
        PatternBench x = bench(300, "(a)(b)", "abc");
        due("search", x.search(0), 0);
        due("compile", compile(x, "c"), 0);
        noMatch("after compile", x);
        due("again", x.again(), NONE);
        due("groups", x.count(2), 0);
        due("SIZE", x.count(3), 1);
        due("the new one is searched for", x.search(0), 2);
        places("of the new one", x, 2, 3);
        due("compile the first once more", compile(x, "(a)(b)"), 2);
        due("search", x.search(0), 0);
        places("of the first", x, 0, 2, 0, 1, 1, 2);
    }

    private static void howManyGroups() {
        for (int groups = 0; groups <= 4; groups++) {
            good("(a)".repeat(groups) + "(?:b)", groups, 3 * groups + 3);
        }
    }

    private static void wrongAndFullLeaveTheReadyOne() {
        String[] patterns = {"(a", "a)", "[b-a]", "((((((", "(?1)", "a{9}a{9}a{9}a{9}a{9}a{9}a", "(b)(c)(d)(a{9}a{9}a{9}){9}"};
        for (int k = 0; k < patterns.length; k++) {
            PatternBench x = bench(300, "(a)(b)?", "caba");
            due("search", x.search(0), 1);
            int[] before = state(x);
            due("compile " + patterns[k], compile(x, patterns[k]), k < 5 ? WRONG : FULL);
            same("after " + patterns[k], state(x), before);
            places("after " + patterns[k], x, 1, 3, 1, 2, 2, 3);
            due("again goes on from the match", x.again(), 3);
            places("of the next match", x, 3, 4, 3, 4);
        }
        PatternBench y = new PatternBench(300);
        for (String pattern : patterns) {
            due("compile is below 0", compile(y, pattern) < 0 ? 1 : 0, 1);
            due("none is ready", y.search(0), REFUSED);
            due("none is ready", y.matches(), REFUSED);
            due("none is ready", y.count(2), NONE);
        }
    }

    // Promise 4

    private static void lettersAlone() {
        for (int letter = -70000; letter <= 70000; letter++) {
            boolean may = letter >= 97 && letter <= 122;
            PatternBench x = new PatternBench(20);
            due("feed " + letter, x.feed(letter), may ? 1 : REFUSED);
            due("letters after " + letter, x.count(1), may ? 1 : 0);
        }
        PatternBench x = new PatternBench(20);
        for (int bit = 7; bit < 32; bit++) {
            due("feed 97 with bit " + bit, x.feed(97 | 1 << bit), REFUSED);
            due("feed 122 with bit " + bit, x.feed(122 | 1 << bit), REFUSED);
        }
    }

    private static void fortyFirstLetter() {
        PatternBench x = bench(300, "a", b(38) + "a");
        due("the 40th", x.feed('a'), 40);
        due("search", x.search(0), 38);
        int[] before = state(x);
        for (int k = 0; k < 3; k++) {
            due("one more", x.feed('a'), FULL);
            same("after FULL", state(x), before);
        }
        due("FULL leaves the match to go on from", x.again(), 39);
        due("there is no letter behind it", x.again(), NONE);
        due("clear makes room", x.clear(), 40);
        due("feed", x.feed('a'), 1);
    }

    private static void feedingEndsTheMatch() {
        PatternBench x = new PatternBench(300);
        due("compile", compile(x, "(b)?"), 1);
        for (int k = 1; k <= 40; k++) {
            due("search", x.search(0), 0);
            due("feed", x.feed('b'), k);
            due("letters", x.count(1), k);
            due("start after feed", x.start(0), UNSET);
            due("end after feed", x.end(0), UNSET);
            due("start 1 after feed", x.start(1), UNSET);
            due("end 1 after feed", x.end(1), UNSET);
            due("again", x.again(), NONE);
        }
    }

    // Promise 5

    private static void emptySubject() {
        PatternBench x = bench(300, "a", "aa");
        due("clear", x.clear(), 2);
        due("letters", x.count(1), 0);
        due("search", x.search(0), NONE);
        due("above the length", x.search(1), REFUSED);
        due("the pattern is still ready", x.count(3), 1);
        due("feed", x.feed('b'), 1);
        due("no letter comes back", x.search(0), NONE);
    }

    private static void clearingEndsTheMatch() {
        PatternBench x = bench(300, "(a)", "aa");
        x.search(0);
        due("clear", x.clear(), 2);
        noMatch("after clear", x);
        due("steps stay those of the last search", x.steps(), 2);
        due("again", x.again(), NONE);
        PatternBench y = bench(300, "()", "");
        due("a match in the empty subject", y.search(0), 0);
        due("clear of the empty subject", y.clear(), 0);
        noMatch("after clear of the empty subject", y);
    }

    private static void lengthBefore() {
        PatternBench x = new PatternBench(20);
        due("clear of a new object", x.clear(), 0);
        for (int length = 0; length <= 40; length += 8) {
            feed(x, a(length));
            due("clear", x.clear(), length);
            due("clear of the empty subject", x.clear(), 0);
        }
    }

    // Promise 6

    private static void placesToSearchFrom() {
        for (int length = 0; length <= 40; length += 5) {
            PatternBench x = bench(300, "$", a(length));
            int[] out = {MIN, -1, length + 1, length + 65536, MAX};
            for (int from : out) {
                due("search " + from, x.search(from), REFUSED);
            }
            due("no search was made", x.steps(), 0);
            due("search 0", x.search(0), length);
            due("its steps", x.steps(), length + 1);
            due("search from the length", x.search(length), length);
            due("its steps", x.steps(), 1);
            int[] before = state(x);
            for (int from : out) {
                due("search " + from, x.search(from), REFUSED);
                same("after the refused search", state(x), before);
            }
        }
    }

    private static void searchWithoutAPattern() {
        PatternBench x = new PatternBench(20);
        feed(x, "ab");
        for (int from = -1; from <= 3; from++) {
            due("search " + from, x.search(from), REFUSED);
        }
        due("steps", x.steps(), 0);
        write(x, "a");
        due("written, not yet ready", x.search(0), REFUSED);
        due("compile", x.compile(), 0);
        due("ready", x.search(0), 0);
    }

    private static void noneAndStoppedEndTheMatch() {
        PatternBench x = bench(20, "(a)|(?:b*)*c", "ab".repeat(3) + b(30));
        due("a match", x.search(0), 0);
        places("of the match", x, 0, 1, 0, 1);
        due("STOPPED", x.search(6), STOPPED);
        noMatch("after STOPPED", x);
        due("again after STOPPED", x.again(), NONE);
        PatternBench y = bench(20, "(a)", "ab");
        due("a match", y.search(0), 0);
        due("NONE", y.search(1), NONE);
        noMatch("after NONE", y);
        due("again after NONE", y.again(), NONE);
    }

    // Promise 7

    private static void fromTheEndOfTheMatch() {
        PatternBench x = bench(300, "aa", "aaaaa");
        due("search", x.search(0), 0);
        due("again", x.again(), 2);
        due("again, from 4", x.again(), NONE);
        due("steps of the search from 4", x.steps(), 3);
        PatternBench y = bench(300, "a", "a");
        due("search", y.search(0), 0);
        due("again, from the length", y.again(), NONE);
        due("that is not above it: a search was made", y.steps(), 1);
    }

    private static void onePlaceOn() {
        PatternBench x = bench(300, "a*", "baa");
        due("search", x.search(0), 0);
        due("again behind an empty match", x.again(), 1);
        places("of it", x, 1, 3);
        due("again behind one with letters", x.again(), 3);
        places("of it", x, 3, 3);
        PatternBench y = bench(300, "(?=(a))", "aa");
        due("search", y.search(0), 0);
        due("again", y.again(), 1);
        places("of it", y, 1, 1, 1, 2);
        due("again, from 2", y.again(), NONE);
        due("its steps", y.steps(), 3);
    }

    private static void againWithoutAMatch() {
        PatternBench x = new PatternBench(20);
        due("no pattern", x.again(), NONE);
        compile(x, "a");
        due("no search", x.again(), NONE);
        feed(x, "a");
        due("search", x.search(0), 0);
        due("again", x.again(), NONE);
        due("again behind NONE", x.again(), NONE);
        due("made none", x.steps(), 0);
        due("search", x.search(0), 0);
        compile(x, "a");
        due("again behind compile", x.again(), NONE);
        due("search", x.search(0), 0);
        due("matches", x.matches(), 1);
        due("again behind matches", x.again(), NONE);
    }

    private static void aboveTheLength() {
        for (int length = 0; length <= 40; length += 10) {
            PatternBench x = bench(300, "()$", a(length));
            due("search", x.search(length), length);
            places("of the match", x, length, length, length, length);
            due("again, above the length", x.again(), NONE);
            due("made none", x.steps(), 0);
            due("again once more", x.again(), NONE);
        }
    }

    /** "Answers as search": with NONE and STOPPED there is no match. */
    private static void answersAsSearch() {
        PatternBench above = bench(300, "()$", "a");
        due("search", above.search(0), 1);
        due("again, above the length", above.again(), NONE);
        noMatch("after an again that made no search", above);
        PatternBench none = bench(300, "(a)", "ab");
        due("search", none.search(0), 0);
        due("again", none.again(), NONE);
        noMatch("after NONE", none);
        PatternBench stopped = bench(20, "(a)|(?:b*)*c", "a" + b(30));
        due("search", stopped.search(0), 0);
        due("again", stopped.again(), STOPPED);
        due("LIMIT", stopped.steps(), 20);
        noMatch("after STOPPED", stopped);
    }

    // Promises 8 and 9

    private static void groupsZeroToFour() {
        PatternBench x = bench(300, "(a)(b)(c)(d)", "xabcd");
        due("search", x.search(0), 1);
        places("of five", x, 1, 5, 1, 2, 2, 3, 3, 4, 4, 5);
        for (int group : NO_GROUP) {
            due("start " + group, x.start(group), REFUSED);
            due("end " + group, x.end(group), REFUSED);
        }
    }

    private static void groupThatIsUnset() {
        PatternBench x = bench(300, "(x)?(a)(x)?(b)", "ab");
        due("search", x.search(0), 0);
        places("of the match", x, 0, 2, UNSET, UNSET, 0, 1, UNSET, UNSET, 1, 2);
    }

    private static void noSuchGroup() {
        for (int groups = 0; groups <= 4; groups++) {
            PatternBench x = bench(300, "()()()()", "");
            due("search", x.search(0), 0);
            due("compile", compile(x, "()".repeat(groups)), groups);
            due("search", x.search(0), 0);
            for (int group = 0; group <= 4; group++) {
                due("start " + group + " of " + groups, x.start(group), group <= groups ? 0 : UNSET);
                due("end " + group + " of " + groups, x.end(group), group <= groups ? 0 : UNSET);
            }
        }
    }

    private static void noMatchNoPlaces() {
        PatternBench x = new PatternBench(300);
        noMatch("of a new object", x);
        compile(x, "(a)");
        noMatch("before a search", x);
        x.search(0);
        noMatch("after NONE", x);
        feed(x, "a");
        x.search(0);
        places("of a match", x, 0, 1, 0, 1);
        due("asking for it leaves it", x.again(), NONE);
    }

    // Promise 10

    private static void stepsOfTheLastSearch() {
        PatternBench x = bench(300, "a", "bab");
        due("search", x.search(0), 1);
        due("steps", x.steps(), 2);
        due("steps once more", x.steps(), 2);
        due("again", x.again(), NONE);
        due("steps of again", x.steps(), 2);
        due("search", x.search(3), NONE);
        due("steps", x.steps(), 1);
        x.feed('a');
        x.clear();
        compile(x, "");
        due("other calls leave them", x.steps(), 1);
        due("search", x.search(0), 0);
        due("a search without steps", x.steps(), 0);
    }

    private static void limitIfItStopped() {
        for (int limit = 20; limit <= 300; limit += 35) {
            stops(limit, "(a*)*b", a(40));
        }
        PatternBench x = bench(20, "b", a(19));
        due("as many as LIMIT, not stopped", x.search(0), NONE);
        due("LIMIT", x.steps(), 20);
    }

    private static void zeroBeforeTheFirst() {
        PatternBench x = new PatternBench(300);
        due("new", x.steps(), 0);
        due("search that is refused", x.search(0), REFUSED);
        due("matches that is refused", x.matches(), REFUSED);
        due("steps", x.steps(), 0);
        compile(x, "a");
        feed(x, "aa");
        due("search that is refused", x.search(3), REFUSED);
        due("steps", x.steps(), 0);
    }

    private static void zeroAfterAnAgainThatMadeNone() {
        PatternBench x = bench(300, "a*", "a");
        due("search", x.search(0), 0);
        due("steps", x.steps(), 2);
        due("again", x.again(), 1);
        due("steps", x.steps(), 1);
        due("again, above the length", x.again(), NONE);
        due("steps", x.steps(), 0);
        due("search", x.search(0), 0);
        x.feed('b');
        due("steps stay", x.steps(), 2);
        due("again without a match", x.again(), NONE);
        due("steps", x.steps(), 0);
    }

    // Promise 11

    private static void matchesOf(String pattern, String subject, int matches, int steps) {
        PatternBench x = bench(300, pattern, subject);
        due("matches of " + pattern + " in " + subject, x.matches(), matches);
        due("steps of " + pattern + " in " + subject, x.steps(), steps);
        noMatch("after matches", x);
    }

    private static void oneBehindTheOther() {
        matchesOf("b", a(40), 0, 41);
        matchesOf("a", "", 0, 1);
        matchesOf("", "", 1, 0);
        matchesOf("", a(40), 41, 0);
        matchesOf("a", a(40), 40, 1);
        matchesOf("aa", "aaaaa", 2, 3);
        matchesOf("a*", "baac", 4, 1);
        matchesOf("$", a(40), 1, 41);
        PatternBench x = bench(300, "a", "aaa");
        due("search", x.search(2), 2);
        due("matches begins at 0", x.matches(), 3);
        due("matches once more", x.matches(), 3);
    }

    private static void stoppedAtOnceOrLater() {
        PatternBench x = bench(20, "a|(?:b*)*c", b(30));
        due("the first search", x.matches(), STOPPED);
        due("LIMIT", x.steps(), 20);
        PatternBench y = bench(20, "a|(?:b*)*c", "aaa" + b(30));
        due("behind three matches", y.matches(), STOPPED);
        due("LIMIT", y.steps(), 20);
        PatternBench z = bench(20, "a", a(40));
        due("each search has LIMIT for itself", z.matches(), 40);
    }

    private static void noMatchAfterMatches() {
        String[] patterns = {"(a)", "b", "()", "a|(?:b*)*c"};
        String[] subjects = {"aa", "aa", "a", "a" + b(30)};
        for (int k = 0; k < patterns.length; k++) {
            PatternBench x = bench(20, patterns[k], subjects[k]);
            x.search(0);
            x.matches();
            noMatch("after matches of " + patterns[k], x);
            due("again after matches of " + patterns[k], x.again(), NONE);
            due("made none", x.steps(), 0);
        }
    }

    /** The last again of each makes no search, for the match before it ends behind the last letter. */
    private static void stepsOfTheLastSearchMade() {
        matchesOf("^$", "", 1, 2);
        matchesOf("$", "ab", 1, 3);
        matchesOf("a*", "aa", 2, 1);
        matchesOf("(?=.|$)", "ab", 3, 3);
        matchesOf("(?=.|$)", a(40), 41, 3);
        matchesOf("()()", "a", 2, 2);
    }

    private static void matchesWithoutAPattern() {
        PatternBench x = new PatternBench(20);
        feed(x, "ab");
        write(x, "a");
        int[] before = state(x);
        due("matches", x.matches(), REFUSED);
        same("after the refused call", state(x), before);
        due("compile is WRONG", compile(x, ")"), WRONG);
        due("matches", x.matches(), REFUSED);
        due("compile", compile(x, "a"), 0);
        due("matches", x.matches(), 1);
    }

    // Promise 12

    private static void countsUpToTheirBounds() {
        PatternBench x = new PatternBench(20);
        for (int k = 0; k <= 40; k++) {
            due("characters", x.count(0), Math.min(k, 32));
            due("letters", x.count(1), k);
            x.write('(');
            x.feed('a');
        }
        due("characters", x.count(0), 32);
        due("letters", x.count(1), 40);
    }

    private static void countsOfTheReadyPattern() {
        PatternBench x = new PatternBench(20);
        due("groups, none ready", x.count(2), NONE);
        due("SIZE, none ready", x.count(3), NONE);
        write(x, "(a)");
        due("groups, none ready yet", x.count(2), NONE);
        x.compile();
        due("groups", x.count(2), 1);
        due("SIZE", x.count(3), 3);
        write(x, "(((");
        due("groups of the ready one", x.count(2), 1);
        due("SIZE of the ready one", x.count(3), 3);
        x.compile();
        x.compile();
        due("groups of the empty one", x.count(2), 0);
        due("SIZE of the empty one", x.count(3), 0);
        due("compile", compile(x, "(a{9})(a{9})(a{9})(a{9})a{9}a"), 4);
        due("groups", x.count(2), 4);
        due("SIZE", x.count(3), 59);
        due("compile", compile(x, "a{9}a{9}a{9}a{9}a{9}a{9}"), 0);
        due("SIZE", x.count(3), 60);
    }

    private static void noSuchCount() {
        int[] none = {MIN, MIN + 1, -65536, -256, -4, -1, 4, 5, 256, 257, 65536, MAX};
        PatternBench x = bench(20, "a", "a");
        for (int what : none) {
            due("count " + what, x.count(what), REFUSED);
        }
    }

    private static void theConstants() {
        int[] all = {REFUSED, FULL, WRONG, NONE, STOPPED, UNSET};
        for (int k = 0; k < all.length; k++) {
            due("constant " + k, all[k], -1 - k);
        }
    }

    private static void firstPromises() {
        sentence("The public face", "REFUSED = -1; .. UNSET = -6;", CallsEdgesTest::theConstants);
        sentence("What it is", "An object is used for at most 512 calls after it has been made", CallsEdgesTest::fiveHundredAndTwelveCalls);
        sentence("Terms", "Calls answer REFUSED for numbers out of range, .. and then change nothing.", CallsEdgesTest::refusedCallsChangeNothing);
        sentence("Terms", "tested first", CallsEdgesTest::testedFirst);
        sentence("Promise 1", "limit: LIMIT, clamped to 20 .. 300.", CallsEdgesTest::limitIsClamped);
        sentence("Promise 1", "No pattern is ready", CallsEdgesTest::noPatternAtFirst);
        sentence("Promise 1", "there is no match.", CallsEdgesTest::noMatchAtFirst);
        sentence("Promise 1", "A new object", CallsEdgesTest::objectsApart);
        sentence("Promise 2", "It has 32: FULL.", CallsEdgesTest::thirtyThirdCharacter);
        sentence("Promise 2", "Else its length.", CallsEdgesTest::lengthOfThePattern);
        sentence("Promise 2", "Appends a character .. to the pattern that is being written.", CallsEdgesTest::writingLeavesTheRest);
        sentence("Promise 3", "which is empty afterwards whatever the answer.", CallsEdgesTest::emptyWhateverTheAnswer);
        sentence("Promise 3", "Takes the pattern that is being written, the empty one too", CallsEdgesTest::nothingWritten);
        sentence("Promise 3", "It is not good: WRONG. Its SIZE is above 60: FULL.", CallsEdgesTest::wrongBeforeFull);
        sentence("Promise 3", "Else it is the ready one in place of the one before, there is no match", CallsEdgesTest::inPlaceOfTheOneBefore);
        sentence("Promise 3", "and the answer is how many groups it has.", CallsEdgesTest::howManyGroups);
        sentence("Promise 3", "WRONG and FULL leave the ready one and the match.", CallsEdgesTest::wrongAndFullLeaveTheReadyOne);
        sentence("Promise 4", "a letter (97 .. 122)", CallsEdgesTest::lettersAlone);
        sentence("Promise 4", "It has 40: FULL.", CallsEdgesTest::fortyFirstLetter);
        sentence("Promise 4", "Else its length; there is no match.", CallsEdgesTest::feedingEndsTheMatch);
        sentence("Promise 5", "The subject is empty", CallsEdgesTest::emptySubject);
        sentence("Promise 5", "there is no match.", CallsEdgesTest::clearingEndsTheMatch);
        sentence("Promise 5", "Its length before.", CallsEdgesTest::lengthBefore);
    }

    private static void otherPromises() {
        sentence("Promise 6", "from the place (0 .. length of the subject; else .. REFUSED).", CallsEdgesTest::placesToSearchFrom);
        sentence("Promise 6", "or if no pattern is ready, REFUSED", CallsEdgesTest::searchWithoutAPattern);
        sentence("Promise 6", "NONE or STOPPED; with these two there is no match.", CallsEdgesTest::noneAndStoppedEndTheMatch);
        sentence("Promise 7", "from the end of the match", CallsEdgesTest::fromTheEndOfTheMatch);
        sentence("Promise 7", "or, if that is where it begins, from one place on", CallsEdgesTest::onePlaceOn);
        sentence("Promise 7", "there is no match: NONE", CallsEdgesTest::againWithoutAMatch);
        sentence("Promise 7", "or that is above the length: NONE.", CallsEdgesTest::aboveTheLength);
        sentence("Promise 7", "Answers as search.", CallsEdgesTest::answersAsSearch);
        sentence("Promises 8 and 9", "the group 0 .. 4 of the match", CallsEdgesTest::groupsZeroToFour);
        sentence("Promises 8 and 9", "UNSET if the group is UNSET", CallsEdgesTest::groupThatIsUnset);
        sentence("Promises 8 and 9", "there is no such group", CallsEdgesTest::noSuchGroup);
        sentence("Promises 8 and 9", "or no match.", CallsEdgesTest::noMatchNoPlaces);
        sentence("Promise 10", "Steps of the last search, of again too", CallsEdgesTest::stepsOfTheLastSearch);
        sentence("Promise 10", "LIMIT if it stopped", CallsEdgesTest::limitIfItStopped);
        sentence("Promise 10", "0 before the first one", CallsEdgesTest::zeroBeforeTheFirst);
        sentence("Promise 10", "and after an again that made none.", CallsEdgesTest::zeroAfterAnAgainThatMadeNone);
        sentence("Promise 11", "search from 0, then again, until the answer is below 0", CallsEdgesTest::oneBehindTheOther);
        sentence("Promise 11", "if that is STOPPED, STOPPED.", CallsEdgesTest::stoppedAtOnceOrLater);
        sentence("Promise 11", "There is no match afterwards", CallsEdgesTest::noMatchAfterMatches);
        sentence("Promise 11", "and the steps are those of the last search made.", CallsEdgesTest::stepsOfTheLastSearchMade);
        sentence("Promise 11", "REFUSED if no pattern is ready.", CallsEdgesTest::matchesWithoutAPattern);
        sentence("Promise 12", "Characters of the pattern being written (0), length of the subject (1)", CallsEdgesTest::countsUpToTheirBounds);
        sentence("Promise 12", "groups of the ready pattern (2; NONE if there is none), its SIZE (3; NONE)", CallsEdgesTest::countsOfTheReadyPattern);
        sentence("Promise 12", "else REFUSED.", CallsEdgesTest::noSuchCount);
    }

    public static void main(String[] args) {
        firstPromises();
        otherPromises();
        tell();
    }
}

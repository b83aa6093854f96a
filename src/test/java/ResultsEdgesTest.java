/**
 * The sentences under "Terms" that bound a search: THE SUBJECT, PLACES, CAPTURES, RESULTS, STEPS
 * and SEARCH. Each one has a test of its own, with places and steps worked out by hand.
 */
public final class ResultsEdgesTest extends Asking {
    // THE SUBJECT, PLACES, CAPTURES

    private static void fortyLetters() {
        finds("b", a(39) + "b", 39, 40, 40);
        finds("^.{9}.{9}.{9}.{9}....$", a(40), 0, 40, 42);
        PatternBench x = bench(300, "b", a(39));
        due("the 40th letter", x.feed('b'), 40);
        due("one more", x.feed('b'), FULL);
        due("search", x.search(0), 39);
        due("the one more is not there", x.again(), NONE);
        due("nor its place", x.search(41), REFUSED);
    }

    private static void placesUpToTheLength() {
        for (int length = 0; length <= 40; length++) {
            PatternBench x = bench(300, "", a(length));
            due("search below the places of " + length, x.search(-1), REFUSED);
            for (int from = 0; from <= length; from++) {
                due("search " + from + " of " + length, x.search(from), from);
            }
            due("search above the places of " + length, x.search(length + 1), REFUSED);
        }
    }

    private static void lettersBetweenPlaces() {
        String letters = "abcdefghijklmnopqrstuvwxyz";
        for (int p = 0; p < 26; p++) {
            finds(letters.substring(p, p + 1), letters, p, p + 1, p + 1);
        }
    }

    /** Every two places, in all four groups at once. */
    private static void twoPlaces() {
        for (int from = 0; from <= 40; from++) {
            for (int to = from + 1; to <= 40; to++) {
                PatternBench x = bench(300, "((((b+))))", a(from) + b(to - from) + a(40 - to));
                due("search", x.search(0), from);
                for (int group = 0; group <= 4; group++) {
                    due("start " + group, x.start(group), from);
                    due("end " + group, x.end(group), to);
                }
            }
            PatternBench x = bench(300, "()()()()", a(40));
            due("search", x.search(from), from);
            for (int group = 0; group <= 4; group++) {
                due("start " + group, x.start(group), from);
                due("end " + group, x.end(group), from);
            }
        }
    }

    /** Every choice of groups that capture, the others UNSET. */
    private static void unsetOrTwoPlaces() {
        for (int set = 0; set < 16; set++) {
            StringBuilder pattern = new StringBuilder();
            int[] places = new int[11];
            places[2] = 4;
            for (int group = 1; group <= 4; group++) {
                boolean captures = (set >> (group - 1) & 1) != 0;
                pattern.append(captures ? "()?" : "(b)?");
                places[2] += captures ? 0 : 1;
                places[2 * group + 1] = captures ? 0 : UNSET;
                places[2 * group + 2] = captures ? 0 : UNSET;
            }
            finds(pattern.toString(), "a", places);
        }
    }

    // RESULTS: letters, '^', '$'

    private static void aLetterThere() {
        String[] atoms = {"a", ".", "[a]", "[^b]", "[a-z]"};
        for (String atom : atoms) {
            findsNone(atom, "", 1);
            finds(atom, "a", 0, 1, 1);
            PatternBench x = bench(300, atom, a(40));
            due(atom + " at the last letter", x.search(39), 39);
            due(atom + " behind the last letter", x.search(40), NONE);
            due(atom + " behind the last letter: steps", x.steps(), 1);
        }
        findsNone("^.{9}.{9}.{9}.{9}.....", a(40), 82);
        PatternBench x = bench(300, "a", "ba");
        x.clear();
        x.feed('b');
        due("a letter of the subject before", x.search(0), NONE);
    }

    private static void oneAnyOrOneOfTheClass() {
        findsNone("b", "ac", 3);
        finds(".", "z", 0, 1, 1);
        finds("[b-y]", "azb", 2, 3, 3);
        finds("[^b-y]", "bycz", 3, 4, 4);
        finds("[^b-y]", "bya", 2, 3, 3);
        findsNone("[^a-z]", "amz", 4);
        finds("[az]", "bz", 1, 2, 2);
        finds("[^az]", "azm", 2, 3, 3);
    }

    private static void theFirstPlace() {
        PatternBench x = bench(300, "^", "ab");
        due("^ from 0", x.search(0), 0);
        due("^ from 0: steps", x.steps(), 1);
        due("^ again", x.again(), NONE);
        due("^ from 1, where the search begins", x.search(1), NONE);
        due("^ from 1: steps", x.steps(), 2);
        due("^ from the length", x.search(2), NONE);
        due("^ from the length: steps", x.steps(), 1);
        finds("^", "", 0, 0, 1);
        findsNone("a^", "a", 3);
    }

    private static void theLastPlace() {
        finds("$", "", 0, 0, 1);
        finds("$", "ab", 2, 2, 3);
        finds("$", a(40), 40, 40, 41);
        finds("^$", "", 0, 0, 2);
        finds("$^", "", 0, 0, 2);
        findsNone("^$", "a", 3);
        findsNone("$a", "a", 3);
        PatternBench x = bench(300, "b$", "ab");
        due("the length", x.search(0), 1);
        x.feed('b');
        due("the length of the longer subject", x.search(0), 2);
    }

    // RESULTS: references

    private static void referenceToUnset() {
        findsNone("\\1(a)", "aa", 3);
        findsNone("(\\1)", "a", 4);
        findsNone("(?:a|(b))\\1", "aa", 14);
        findsNone("(?!(a))\\1", "b", 8);
        findsNone("(a){0}\\1", "a", 2);
        findsNone("(?1)\\1(a){0}", "aa", 8);
        finds("(b)?(?:\\1|a)", "a", 0, 1, 5);
    }

    private static void referenceToNoLetters() {
        finds("()\\1", "", 0, 0, 2, 0, 0);
        finds("a()$\\1", "a", 0, 1, 4, 1, 1);
        finds("$()\\1\\1", a(40), 40, 40, 44, 40, 40);
        finds("(a*)\\1b", "b", 0, 1, 4, 0, 0);
    }

    private static void referenceToTheLastLetters() {
        finds("(a{9}a{9}aa)\\1", a(40), 0, 40, 22, 0, 20);
        findsNone("^(a{9}a{9}aa)\\1", a(39), 62);
        finds("(ab)\\1", "abab", 0, 4, 4, 0, 2);
        findsNone("(ab)\\1", "aba", 11);
        PatternBench x = bench(300, "(ab)\\1", "abab");
        x.clear();
        feed(x, "aba");
        due("the last letter of the subject before is gone", x.search(0), NONE);
        due("steps", x.steps(), 11);
    }

    private static void referenceToOtherLetters() {
        findsNone("(ab)\\1", "abac", 13);
        findsNone("(ab)\\1", "abbb", 12);
        finds("(..)\\1", "abaabab", 3, 7, 16, 3, 5);
    }

    // RESULTS: calls

    private static void callsGiveCapturesBack() {
        finds("(a|b)(?1)\\1", "aba", 0, 3, 6, 0, 1);
        finds("((a|b))(?1)\\2", "aba", 0, 3, 8, 0, 1, 0, 1);
        findsNone("((a|b))(?1)\\2", "abb", 30);
        finds("(?1)((a)){0}", "a", 0, 1, 3);
        finds("(a)(?2)(\\1){0}", "aa", 0, 2, 4, 0, 1);
    }

    private static void twelveCalls() {
        finds("a(?0)?", a(12), 0, 12, 25);
        finds("a(?0)?", a(13), 0, 13, 26);
        finds("a(?0)?", a(14), 0, 13, 26);
        finds("^(a(?1)?b)$", a(13) + b(13), 0, 26, 42, 0, 26);
        findsNone("^(a(?1)?b)$", a(14) + b(14), 69);
        findsNone("(?0)", "", 13);
    }

    private static void callsAroundThisOne() {
        String two = "^(a(?2)?)(b(?1)?){0}$";
        finds(two, "ababababababa", 0, 13, 29, 0, 13);
        findsNone(two, "ababababababab", 55);
        finds("(?>a(?0)?+)", a(40), 0, 13, 39);
        finds("(a)(?1){9}(?1){9}", a(40), 0, 19, 38, 0, 1);
    }

    private static void aCallEndsWithItsResult() {
        String pattern = "^(?1)(?2)$(a){0}(b(?2)?){0}";
        finds(pattern, "a" + b(12), 0, 13, 29);
        findsNone(pattern, "a" + b(13), 54);
    }

    private static void aCallGoesOn() {
        finds("^(?1)$(|b(?1)){0}", b(11), 0, 11, 36);
        findsNone("^(?1)$(|b(?1)){0}", b(12), 50);
        finds("^(?1)b(a*){0}$", "aab", 0, 3, 7);
        finds("^(?1)ab(a*){0}$", "aab", 0, 3, 9);
    }

    // RESULTS: what stands in brackets

    private static void groupCaptures() {
        finds("()", "a", 0, 0, 1, 0, 0);
        finds("(a*)", "b", 0, 0, 2, 0, 0);
        finds("(a|b)*", "ab", 0, 2, 8, 1, 2);
        finds("(a|ab)(c|bcd)", "abcd", 0, 4, 7, 0, 1, 1, 4);
        finds("(.*)", a(40), 0, 40, 42, 0, 40);
    }

    private static void plainBrackets() {
        finds("(?:)", "a", 0, 0, 1);
        finds("(?:a|ab)c", "abc", 0, 3, 6);
        findsNone("(?:b)", "a", 4);
    }

    private static void theFirstOneAlone() {
        finds("(?>)", "a", 0, 0, 1);
        findsNone("(?>a|ab)c", "abc", 12);
        finds("(?>ab|a)c", "abc", 0, 3, 4);
        findsNone("(?>b)", "a", 4);
        findsNone("(?>a*)a", "aa", 12);
        finds("(?>(a)|b)\\1", "aa", 0, 2, 4, 0, 1);
    }

    private static void ahead() {
        finds("(?=)", "", 0, 0, 1);
        finds("(?=a)", "a", 0, 0, 2);
        findsNone("a(?=a)", "a", 4);
        finds("(?=(a*))", "aab", 0, 0, 5, 0, 2);
        findsNone("(?=(a|aa))\\1$", "aab", 18);
        finds(".(?=$)", "ab", 1, 2, 6);
    }

    private static void notAhead() {
        findsNone("(?!)", "", 1);
        findsNone("(?!)", "a", 2);
        finds("(?!a)", "", 0, 0, 2);
        finds("a(?!a)", "aa", 1, 2, 6);
        findsNone("(?!(b)|a)a", "a", 9);
        finds("(?!(b)|c)a", "a", 0, 1, 5);
        finds("(a)(?!(b))", "a", 0, 1, 5, 0, 1);
        finds("(?!(?!(a)))a", "a", 0, 1, 5);
    }

    // RESULTS: repeats

    private static void starTurnWithoutALetter() {
        finds("()*", "", 0, 0, 1, 0, 0);
        finds("(?:)*", "a", 0, 0, 1);
        finds("^*", "a", 0, 0, 1);
        finds("(|a)*", "aa", 0, 0, 1, 0, 0);
        finds("(a|)*", "aa", 0, 2, 6, 2, 2);
        finds("(?:^|a)*b", "aab", 0, 3, 11);
        finds("(|a)*?$", "a", 0, 1, 5, 0, 1);
    }

    private static void starNoTurn() {
        finds("a*", "b", 0, 0, 1);
        finds("a*a", "aa", 0, 2, 5);
        finds("(b)*", "a", 0, 0, 2);
        finds("a*?", "a", 0, 0, 0);
        finds("a*?$", "aa", 0, 2, 5);
    }

    private static void plusTurns() {
        finds("()+", "", 0, 0, 2, 0, 0);
        finds("(|a)+", "aa", 0, 0, 2, 0, 0);
        finds("()+?", "", 0, 0, 1, 0, 0);
        findsNone("a+?", "", 1);
        finds("a+?", "aa", 0, 1, 1);
        finds("a+?$", "aa", 0, 2, 4);
        finds("a+a", "aa", 0, 2, 5);
    }

    private static void maybeOnce() {
        finds("()?", "", 0, 0, 1, 0, 0);
        finds("()??", "", 0, 0, 0);
        finds("a?a", "a", 0, 1, 3);
        finds("a??a", "a", 0, 1, 1);
        finds("a??$", "a", 0, 1, 3);
    }

    private static void justTimes() {
        finds("a{0}", "a", 0, 0, 0);
        finds("(a){0}", "a", 0, 0, 0);
        finds("(?!){0}?", "a", 0, 0, 0);
        finds("(?!){0}+", "a", 0, 0, 0);
        finds("(){9}", "", 0, 0, 9, 0, 0);
        finds("(a|aa){2}$", "aaa", 0, 3, 8, 1, 3);
        finds("(a|aa){2}?$", "aaa", 0, 3, 8, 1, 3);
        finds("(a){1}", "aa", 0, 1, 2, 0, 1);
    }

    private static void possessive() {
        findsNone("a*+a", "aa", 9);
        findsNone("a++a", "aa", 8);
        findsNone("a?+a", "a", 4);
        finds("a?+a", "aa", 0, 2, 2);
        findsNone("(a|ab){1}+c", "abc", 12);
        finds("(?:a|aa){2}+$", "aaa", 1, 3, 10);
        finds("a*+b", "b", 0, 1, 2);
        finds("()*+", "", 0, 0, 1, 0, 0);
        finds("a{0}+a", "a", 0, 1, 1);
    }

    private static void noPartsAndRows() {
        finds("", "ab", 0, 0, 0);
        PatternBench x = bench(300, "", "ab");
        due("from the length", x.search(2), 2);
        due("from the length: end", x.end(0), 2);
        finds("a|ab", "ab", 0, 1, 1);
        finds("ab|a", "ab", 0, 2, 2);
        finds("|a", "a", 0, 0, 0);
        finds("a||b", "b", 0, 0, 1);
    }

    // STEPS

    private static void atomsOfAnyKind() {
        String[] ones = {"a", ".", "[a]", "[^b]", "^", "()?", "(?:)", "(?=)", "(?>)", "b?", "$?", "[^a]?", "(?!)?"};
        for (String one : ones) {
            PatternBench x = bench(300, one, "a");
            due(one, x.search(0), 0);
            due(one + ": steps", x.steps(), 1);
        }
        finds("()\\1", "a", 0, 0, 2, 0, 0);
        finds("(?:(b)|)\\1?", "a", 0, 0, 4);
        finds("(?0)?", "", 0, 0, 13);
    }

    private static void notTheNextOnes() {
        finds("(?:a|ab|abc)d", "abcd", 0, 4, 10);
        finds("(?1)d(a|ab|abc){0}", "abcd", 0, 4, 10);
    }

    private static void eachTime() {
        finds("a{9}", a(9), 0, 9, 9);
        finds("(){9}", "", 0, 0, 9, 0, 0);
        finds("(?:a*b)*", "abab", 0, 4, 11);
        finds("a*", a(40), 0, 40, 41);
    }

    private static void oneMoreThanTheLimit() {
        for (int limit = 20; limit <= 39; limit++) {
            PatternBench x = bench(limit, "b", a(limit - 1));
            due("NONE by just LIMIT steps", x.search(0), NONE);
            due("just LIMIT steps", x.steps(), limit);
            x.feed('a');
            due("STOPPED before the one more", x.search(0), STOPPED);
            due("LIMIT", x.steps(), limit);
            x.feed('b');
            due("STOPPED before the match", x.search(0), STOPPED);
            due("LIMIT", x.steps(), limit);
            due("a match by just LIMIT steps", x.search(1), limit);
            due("just LIMIT steps", x.steps(), limit);
        }
    }

    private static void oneMoreThanTheGreatestLimit() {
        String nine = "b|b|b|b|b|b|b|b|b|";
        findsNone(nine + "b", a(29), 300);
        finds(nine + "c", a(29) + "c", 29, 30, 300);
        stops(300, "$b|" + nine.substring(2) + "b", a(29));
        stops(299, nine + "b", a(29));
        stops(299, nine + "c", a(29) + "c");
    }

    /** The one more is asked for inside of another part: the part doesn't just fail. */
    private static void theSearchStops() {
        String[] patterns = {"(?!a*b)", "(?=a*b)|", "(?>a*b)|", "(?:a*b)?", "(a*b)*", "a*+|", "(?1)?(a*b){0}", "(?!(?!a*b))|", "a*?b|"};
        for (String pattern : patterns) {
            stops(20, pattern, a(40));
        }
    }

    // SEARCH

    private static void upToTheLength() {
        finds("$", a(40), 40, 40, 41);
        finds("(?!.)", "ab", 2, 2, 6);
        findsNone("b", a(40), 41);
        PatternBench x = bench(300, "a", "aba");
        due("not before the place", x.search(1), 2);
        due("from the place of the match", x.search(2), 2);
        due("from the length", x.search(3), NONE);
    }

    private static void allCapturesUnset() {
        finds("(a)b|c", "ac", 1, 2, 7);
        finds("(?:(a)|b)\\1?c", "abc", 1, 3, 12);
        PatternBench x = bench(300, "(a)|b", "ab");
        due("search", x.search(0), 0);
        due("captured", x.end(1), 1);
        due("again", x.again(), 1);
        due("UNSET in the next match", x.start(1), UNSET);
        due("UNSET in the next match", x.end(1), UNSET);
    }

    private static void countedThrough() {
        finds("b", a(20) + "b", 20, 21, 21);
        findsNone("ab", a(20), 41);
        PatternBench x = bench(300, "b", a(20) + "b");
        due("search", x.search(0), 20);
        due("its steps", x.steps(), 21);
        due("the next search", x.search(19), 20);
        due("is counted anew", x.steps(), 2);
    }

    private static void subjectAndCaptures() {
        sentence("THE SUBJECT", "a row of at most 40 letters 'a' .. 'z'.", ResultsEdgesTest::fortyLetters);
        sentence("PLACES", "are 0 .. its length", ResultsEdgesTest::placesUpToTheLength);
        sentence("PLACES", "the letter at place p stands between p and p + 1.", ResultsEdgesTest::lettersBetweenPlaces);
        sentence("CAPTURES", "two places", ResultsEdgesTest::twoPlaces);
        sentence("CAPTURES", "for each group UNSET or two places.", ResultsEdgesTest::unsetOrTwoPlaces);
    }

    private static void results() {
        String where = "RESULTS";
        sentence(where, "letter, '.', class: there is a letter at p", ResultsEdgesTest::aLetterThere);
        sentence(where, "it is that one, any, or one of the class (with '^': none of it): (p + 1, C); else none.", ResultsEdgesTest::oneAnyOrOneOfTheClass);
        sentence(where, "'^': (p, C) if p is 0.", ResultsEdgesTest::theFirstPlace);
        sentence(where, "'$': (p, C) if p is the length. Else none.", ResultsEdgesTest::theLastPlace);
        sentence(where, "group k is UNSET in C: none.", ResultsEdgesTest::referenceToUnset);
        sentence(where, "(p + how many, C), when it captured none", ResultsEdgesTest::referenceToNoLetters);
        sentence(where, "The letters that it captured stand at p too, up to the length", ResultsEdgesTest::referenceToTheLastLetters);
        sentence(where, "The letters that it captured stand at p too: (p + how many, C); else none.", ResultsEdgesTest::referenceToOtherLetters);
        sentence(where, "each with the captures C in place of its own.", ResultsEdgesTest::callsGiveCapturesBack);
        sentence(where, "If 12 calls are already being worked on: none.", ResultsEdgesTest::twelveCalls);
        sentence(where, "(those around this one, by which it came to be asked for)", ResultsEdgesTest::callsAroundThisOne);
        sentence(where, "\"Working on a call\" of \"(?\" k ')' ends with each of its results that is given out", ResultsEdgesTest::aCallEndsWithItsResult);
        sentence(where, "and goes on when its next one is wanted.", ResultsEdgesTest::aCallGoesOn);
        sentence(where, "the RESULTS of the CHOICE, in each of which the group captures p and the place of the result.", ResultsEdgesTest::groupCaptures);
        sentence(where, "\"(?:\": those of the CHOICE.", ResultsEdgesTest::plainBrackets);
        sentence(where, "\"(?>\": the first one of the CHOICE alone.", ResultsEdgesTest::theFirstOneAlone);
        sentence(where, "\"(?=\": if the CHOICE has a result, p with the captures of the first one; else none.", ResultsEdgesTest::ahead);
        sentence(where, "\"(?!\": (p, C) if the CHOICE has none; else none.", ResultsEdgesTest::notAhead);
        sentence(where, "if its place is p, that result, else the RESULTS of X with the '*' there", ResultsEdgesTest::starTurnWithoutALetter);
        sentence(where, "and after all of these (p, C). Lazy: (p, C) first, then those.", ResultsEdgesTest::starNoTurn);
        sentence(where, "'+': X, then X with the '*' (greedy or lazy).", ResultsEdgesTest::plusTurns);
        sentence(where, "'?': greedy: the RESULTS of X, then (p, C); lazy: (p, C), then those of X.", ResultsEdgesTest::maybeOnce);
        sentence(where, "d times X, one behind the other (greedy and lazy are alike; d 0: (p, C)).", ResultsEdgesTest::justTimes);
        sentence(where, "Possessive: the first one of the greedy RESULTS alone.", ResultsEdgesTest::possessive);
        sentence(where, "none: (p, C). CHOICE: the RESULTS of its ROWS, in their order.", ResultsEdgesTest::noPartsAndRows);
    }

    private static void stepsAndSearch() {
        String where = "STEPS";
        sentence(where, "how often the RESULTS of an ATOM, of any kind, were asked for at a place", ResultsEdgesTest::atomsOfAnyKind);
        sentence(where, "the first one of them, not the next ones", ResultsEdgesTest::notTheNextOnes);
        sentence(where, "an ATOM that is repeated is asked for each time", ResultsEdgesTest::eachTime);
        sentence(where, "When there would be one more than LIMIT, the search stops.", ResultsEdgesTest::oneMoreThanTheLimit);
        sentence(where, "one more than LIMIT, which is 300", ResultsEdgesTest::oneMoreThanTheGreatestLimit);
        sentence(where, "the search stops.", ResultsEdgesTest::theSearchStops);
        where = "A SEARCH from a place s";
        sentence(where, "for s, s + 1, .. up to the length", ResultsEdgesTest::upToTheLength);
        sentence(where, "the RESULTS of the whole pattern there with all captures UNSET", ResultsEdgesTest::allCapturesUnset);
        sentence(where, "Steps are counted through.", ResultsEdgesTest::countedThrough);
    }

    public static void main(String[] args) {
        subjectAndCaptures();
        results();
        stepsAndSearch();
        tell();
    }
}

/**
 * The sentences under "Terms" that bound a pattern: THE PATTERN, GOOD and SIZE. Each one has a
 * test of its own; what stands at an edge is asked for on both sides of it.
 */
public final class PatternEdgesTest extends Asking {
    private static final String ALL = "abcdefghijklmnopqrstuvwxyz0123456789|()?:=!>[]-^$.*+{}\\";
    private static final String[] REPEATS = {"*", "+", "?", "{2}"};
    private static final String[] OPENINGS = {"(", "(?:", "(?=", "(?!", "(?>"};

    // THE PATTERN

    private static void thirtyTwoCharacters() {
        String longest = "^" + a(30) + "b";
        finds(longest, a(30) + "b", 0, 31, 32);
        findsNone(longest, a(31), 32 + 31);
        PatternBench x = new PatternBench(300);
        for (int k = 0; k < 32; k++) {
            due("character " + k + " of " + longest, x.write(longest.charAt(k)), k + 1);
        }
        due("one more", x.write('c'), FULL);
        due("compile without the one more", x.compile(), 0);
        due("its SIZE", x.count(3), 32);
        feed(x, a(30) + "b");
        due("search", x.search(0), 0);
        due("the last character counts, and the one more doesn't", x.end(0), 31);
    }

    private static void onlyTheseCharacters() {
        for (int code = -70000; code <= 70000; code++) {
            boolean may = code > 0 && code < 128 && ALL.indexOf(code) >= 0;
            PatternBench x = new PatternBench(20);
            due("write " + code, x.write(code), may ? 1 : REFUSED);
            due("written after " + code, x.count(0), may ? 1 : 0);
        }
    }

    private static void noCharacterByWrapAround() {
        for (int k = 0; k < ALL.length(); k++) {
            int code = ALL.charAt(k);
            PatternBench x = new PatternBench(20);
            for (int bit = 7; bit < 32; bit++) {
                due("write " + code + " with bit " + bit, x.write(code | 1 << bit), REFUSED);
            }
            int[] others = {-code, ~code, code - 256, code - 65536, MIN + code, MAX - code, MIN, MAX};
            for (int other : others) {
                due("write " + other, x.write(other), REFUSED);
            }
            due("written", x.count(0), 0);
        }
    }

    // GOOD: CHOICE, ROW, ITEM

    private static void rowsWithoutItems() {
        good("", 0, 0);
        good("|", 0, 1);
        good("a|", 0, 2);
        good("|a", 0, 2);
        good("(|)(?:||)()", 2, 3 + 4 + 2);
        finds("", "", 0, 0, 0);
        finds("a|", "b", 0, 0, 1);
    }

    private static void asManyRowsAsCharactersLet() {
        good("|".repeat(32), 0, 32);
        finds("|".repeat(32), "a", 0, 0, 0);
        finds("b|".repeat(15) + "a", "a", 0, 1, 16);
        finds("a" + "|".repeat(31), "b", 0, 0, 1);
        finds("(" + "|".repeat(29) + ")b", "b", 0, 1, 2, 0, 0);
    }

    private static void anItemIsAnAtomFirst() {
        for (String repeat : REPEATS) {
            isWrong(repeat, "|" + repeat, "a|" + repeat, "(" + repeat + ")", "(?:" + repeat + ")", "(|" + repeat + ")");
            good("()" + repeat, 1, repeat.equals("+") ? 6 : repeat.equals("{2}") ? 5 : 4);
        }
        isWrong(")", "a)", "(a))", "]", "a]", "}", "a}", "-", "a-b", ":", "=", "!", ">", "a:b");
    }

    // GOOD: REPEAT

    private static void atLeastZeroTimes() {
        finds("a*", "", 0, 0, 1);
        finds("a*", "b", 0, 0, 1);
        finds("a*", "a", 0, 1, 2);
        finds("a*", a(40), 0, 40, 41);
    }

    private static void atLeastOnce() {
        findsNone("a+", "", 1);
        findsNone("a+", "b", 2);
        finds("a+", "a", 0, 1, 2);
        finds("a+", a(40), 0, 40, 41);
    }

    private static void zeroOrOneTimes() {
        finds("a?", "", 0, 0, 1);
        finds("a?", "a", 0, 1, 1);
        finds("a?", "aa", 0, 1, 1);
        findsNone("^a?$", "aa", 6);
    }

    private static void justSoManyTimes() {
        String[] manners = {"", "?", "+"};
        for (int d = 0; d <= 9; d++) {
            for (String manner : manners) {
                String pattern = "^a{" + d + "}" + manner + "$";
                finds(pattern, a(d), 0, d, d + 2);
                findsNone(pattern, a(d + 1), 2 * d + 3);
                if (d > 0) {
                    findsNone(pattern, a(d - 1), 2 * d);
                }
            }
        }
    }

    private static void oneDigitBetweenBraces() {
        isWrong("a{", "a{2", "a{}", "a{a}", "a{10}", "a{00}", "a{-1}", "a{2)", "(a{2)", "a{2]", "a{2}}", "a{{2}}", "a{*}");
        good("a{0}", 0, 1);
        good("a{9}", 0, 10);
    }

    private static void oneMannerAtMost() {
        for (String repeat : REPEATS) {
            int size = repeat.equals("*") || repeat.equals("?") ? 3 : repeat.equals("+") ? 4 : 3;
            good("a" + repeat, 0, size);
            good("a" + repeat + "?", 0, size);
            good("a" + repeat + "+", 0, size);
            isWrong("a" + repeat + "*", "a" + repeat + "{2}");
            for (String next : REPEATS) {
                isWrong("a" + repeat + "?" + next, "a" + repeat + "+" + next);
            }
        }
    }

    private static void onlyOneReading() {
        // Read otherwise, each of them would be a repeat of a repeat.
        findsNone("a?+a", "a", 4);
        findsNone("a*+a", "a", 5);
        findsNone("a++a", "a", 4);
        finds("a??", "a", 0, 0, 0);
        finds("a+?", "aa", 0, 1, 1);
        finds("a*?", "aa", 0, 0, 0);
        finds("a{2}+", "aaaa", 0, 2, 2);
        finds("a{2}?", "aaaa", 0, 2, 2);
    }

    // GOOD: ATOM

    private static void classOfOneOrMore() {
        isWrong("[", "[]", "[^", "[^]", "[]a]", "[a", "[^a", "a[", "[[a]]", "[^^]", "[^^a]", "[a^]", "[a]]", "[.]", "[|]", "[a\\]");
        good("[a]", 0, 1);
        good("[^a]", 0, 1);
        good("[abcdefghijklmnopqrstuvwxyzabcd]", 0, 1);
        good("[^a-zb-ya-ac-xa-za-za-za-za-za]", 0, 1);
        finds("[xzy]", "abz", 2, 3, 3);
    }

    private static void rangeOfAClass() {
        isWrong("[-]", "[-a]", "[a-", "[a-]", "[a-b", "[a-b-]", "[a-b-c]", "[a--b]", "[a-^]", "[^-a]", "[ab-a]", "[b-ac]");
        // These stand behind 'z', and are no letters.
        isWrong("[a-{]", "[z-{]", "[a-|]", "[a-}]", "[^a-{]", "[{]", "[|-}]", "[a{]");
        for (char low = 'a'; low <= 'z'; low++) {
            for (char high = 'a'; high <= 'z'; high++) {
                String range = low + "-" + high + "]";
                if (high < low) {
                    isWrong("[" + range, "[^" + range);
                } else {
                    lettersOfRange(low, high);
                }
            }
        }
    }

    /** Behind each place the next letter that the class holds, and the next that it doesn't. */
    private static void lettersOfRange(char low, char high) {
        String letters = "abcdefghijklmnopqrstuvwxyz";
        PatternBench in = bench(300, "[" + low + "-" + high + "]", letters);
        PatternBench out = bench(300, "[^" + low + "-" + high + "]", letters);
        int first = low - 'a';
        int last = high - 'a';
        for (int from = 0; from <= 26; from++) {
            String what = low + "-" + high + " from " + from;
            due(what, in.search(from), from <= last ? Math.max(first, from) : NONE);
            int next = from < first || from > last ? from : last + 1;
            due("none of " + what, out.search(from), next < 26 ? next : NONE);
        }
    }

    private static void digitBehindBackslash() {
        for (int groups = 0; groups <= 4; groups++) {
            for (int named = 0; named <= 9; named++) {
                String groupsFirst = "()".repeat(groups) + "\\" + named;
                String groupsLast = "\\" + named + "()".repeat(groups);
                if (named >= 1 && named <= groups) {
                    good(groupsFirst, groups, 2 * groups + 1);
                    good(groupsLast, groups, 2 * groups + 1);
                } else {
                    isWrong(groupsFirst, groupsLast);
                }
            }
        }
        isWrong("\\", "()\\", "()\\a", "()\\(", "()\\\\1", "()\\*", "(\\)", "()\\-1");
    }

    private static void digitOfACall() {
        for (int groups = 0; groups <= 4; groups++) {
            for (int named = 0; named <= 9; named++) {
                String groupsFirst = "()".repeat(groups) + "(?" + named + ")";
                String groupsLast = "(?" + named + ")" + "()".repeat(groups);
                if (named <= groups) {
                    good(groupsFirst, groups, 2 * groups + 1);
                    good(groupsLast, groups, 2 * groups + 1);
                } else {
                    isWrong(groupsFirst, groupsLast);
                }
            }
        }
        isWrong("()(?1", "()(?1(", "()(?1a)", "()(?11)", "()(?1*)", "()(?1|)", "()(?:1)", "()(?-1)", "()(?1:a)");
    }

    private static void nothingElseBehindAnOpening() {
        isWrong("(", "(a", "(?", "(?)", "(?a)", "(??)", "(?*)", "(?|a)", "(?(a))", "(?.)", "(?^)", "(?-)", "(?+)", "(?{1})", "(?\\1)", "(?[a])", "(?]");
        isWrong("(?:", "(?=", "(?!", "(?>", "(?:a", "(?=a", "(?!a", "(?>a", "(?:a|", "((?:a)", "(:a)", "(=a)", "(!a)", "(>a)");
        for (String opening : OPENINGS) {
            good(opening + "a)", opening.equals("(") ? 1 : 0, 3);
        }
    }

    private static void digitsNowhereElse() {
        for (int digit = 0; digit <= 9; digit++) {
            String d = String.valueOf(digit);
            isWrong(d, d + "a", "a" + d, "(" + d + ")", "(?:" + d + ")", "|" + d, "^" + d, "a*" + d, "a{1}" + d, "a{1" + d + "}");
            isWrong("[" + d + "]", "[a" + d + "]", "[a-" + d + "]", "[" + d + "-a]", "()\\1" + d, "()(?1" + d + ")", "()(?0)" + d);
        }
    }

    // GOOD: groups and what is inside of what

    private static void atMostFourGroups() {
        good("()()()()", 4, 8);
        good("((((a))))", 4, 9);
        good("(?:()()()())(?:)", 4, 12);
        good("()()()()(?:)(?=)(?!)(?>)(?4)\\4", 4, 18);
        good("(a)|(b)|(c)|(d)", 4, 15);
        isWrong("()()()()()", "(((((a)))))", "(()()()())", "()()()()(?:())", "(a)|(b)|(c)|(d)|(e)", "()()()()(", "((((()");
    }

    private static void numberedByOpening() {
        finds("((a)(b))(c)", "abc", 0, 3, 7, 0, 2, 0, 1, 1, 2, 2, 3);
        finds("(?:(a))(?=(b))(b)(?>(c))", "abc", 0, 3, 11, 0, 1, 1, 2, 1, 2, 2, 3);
    }

    private static void insideOfFiveOthers() {
        String five = "(?:".repeat(5);
        for (String opening : OPENINGS) {
            int groups = opening.equals("(") ? 1 : 0;
            good(five + opening + ")".repeat(6), groups, 12);
            good(opening + five + ")".repeat(6), groups, 12);
            isWrong(five + "(?:" + opening + ")".repeat(7), five + opening + "(?:" + ")".repeat(7));
            isWrong(opening + five + "(?:" + ")".repeat(7));
        }
        good("((((" + "(?:(?:" + ")".repeat(6), 4, 12);
        isWrong("((((" + "(?:(?:(?:" + ")".repeat(7));
    }

    private static void othersThatAreClosed() {
        good("(?:(?:(?:(?:(?:(?:)(?:))))))", 0, 14);
        good("(((())))(?:(?:(?:(?:(?:(?:))))))", 4, 20);
        good("(?:)(?:)(?:)(?:)(?:)(?:)(?:)(?:)", 0, 16);
        isWrong("()(?:(?:(?:(?:(?:(?:(?:)))))))");
    }

    private static void onlyOpeningsOfAChoice() {
        String six = "(?:".repeat(6);
        good(six + "(?0)" + ")".repeat(6), 0, 13);
        good(six + "[^a-b]*" + ")".repeat(6), 0, 15);
        good("((((" + "(?:(?:" + "(?1)\\4" + ")".repeat(6), 4, 14);
        finds("(?:(?:(?:(?:((?:(?1)?)))))){0}a", "a", 0, 1, 1);
    }

    private static void groupsAnywhere() {
        good("(\\1)", 1, 3);
        good("((?1))", 1, 3);
        good("(\\2())", 2, 5);
        good("(?:(?1)|())", 1, 6);
        good("(?4)((((a))))", 4, 10);
        isWrong("(\\2)", "((?2))", "(?:\\1)", "(?1)(?:)", "\\1(?=)", "(?2)(a)", "\\3()()", "(?4)()()()", "(a)|\\2");
    }

    private static void zeroForCallsAlone() {
        good("(?0)", 0, 1);
        good("a(?0)?", 0, 4);
        isWrong("\\0", "()\\0", "()()()()\\0");
        finds("a(?0)?b", "aabb", 0, 4, 7);
    }

    // SIZE

    private static void sizeOfAtoms() {
        String[] ones = {"a", "z", ".", "[a]", "[^a-z]", "^", "$", "(?0)"};
        for (String one : ones) {
            good(one, 0, 1);
        }
        good("()\\1", 1, 3);
        good("()(?1)", 1, 3);
        for (String opening : OPENINGS) {
            int groups = opening.equals("(") ? 1 : 0;
            good(opening + ")", groups, 2);
            good(opening + "ab)", groups, 4);
            good(opening + "a|b)", groups, 5);
            good(opening + "(?:))", groups, 4);
        }
    }

    private static void sizeOfTimes() {
        for (int d = 0; d <= 9; d++) {
            good("a{" + d + "}", 0, d + 1);
            good("a{" + d + "}?", 0, d + 1);
            good("a{" + d + "}+", 0, d + 1);
            good("(ab){" + d + "}", 1, 4 * d + 1);
        }
        good("(?:a{9}a{9}a{9}a{9}a{9}a{9}){0}", 0, 1);
    }

    private static void sizeOfPlus() {
        good("a+", 0, 4);
        good("()+", 1, 6);
        good("(ab)+?", 1, 10);
        good("((a+)+)++", 2, 34);
    }

    private static void sizeOfOtherRepeats() {
        String[] repeats = {"*", "*?", "*+", "?", "??", "?+"};
        for (String repeat : repeats) {
            good("a" + repeat, 0, 3);
            good("()" + repeat, 1, 4);
            good("(a" + repeat + ")" + repeat, 1, 7);
        }
    }

    private static void sizeOfRowsAndChoices() {
        good("", 0, 0);
        good("abc", 0, 3);
        good("a*b+c{4}d", 0, 3 + 4 + 5 + 1);
        good("|", 0, 1);
        good("a|b|c", 0, 5);
        good("a|(|b|)|", 1, 1 + 1 + 5 + 1);
    }

    /** Each pair: a SIZE of 60, and the same with one more. */
    private static void sizeSixtyAndOneMore() {
        String nines = "a{9}a{9}a{9}a{9}a{9}";
        good(nines + "a{9}", 0, 60);
        good("(" + nines + "a{7})", 1, 60);
        good("(" + nines + "a{5})*", 1, 60);
        good("(" + nines + "a{5})?", 1, 60);
        good("(a{9}a{9}a{6})+", 1, 60);
        good("(aaaa){9}aaaaa", 1, 60);
        good("a{9}|a{9}|a{9}|a{9}|a{9}|aaaaa", 0, 60);
        notTaken(FULL, nines + "a{9}a", nines + "a{9}b{0}", "(" + nines + "a{8})", "(" + nines + "a{6})*");
        notTaken(FULL, "(" + nines + "a{6})?", "(a{9}a{9}a{6})+b", "(a{9}a{9}a{7})+", "(aaaa){9}aaaaaa");
        notTaken(FULL, "a{9}|a{9}|a{9}|a{9}|a{9}|aaaaaa", "|a{9}|a{9}|a{9}|a{9}|a{9}|aaaaa");
    }

    /** Sizes of 262, 65542 and 81190, the greater part of which a byte or a short would lose. */
    private static void noSizeByWrapAround() {
        notTaken(FULL, "(a{9}a{9}a{6}){9}", "((((aaa{9}){8}){9}aa){9}){7}", "((((a{9}){9}){9}){9}){9}");
    }

    public static void main(String[] args) {
        String where = "THE PATTERN";
        sentence(where, "a row of at most 32 characters", PatternEdgesTest::thirtyTwoCharacters);
        sentence(where, "each 'a' .. 'z', '0' .. '9' or one of | ( ) ? : = ! > [ ] - ^ $ . * + { } \\.", PatternEdgesTest::onlyTheseCharacters);
        sentence(where, "each 'a' .. 'z', '0' .. '9' or one of", PatternEdgesTest::noCharacterByWrapAround);
        where = "GOOD";
        sentence(where, "ROW: any number of ITEMS, none too.", PatternEdgesTest::rowsWithoutItems);
        sentence(where, "CHOICE: a ROW, or a ROW, '|', a CHOICE.", PatternEdgesTest::asManyRowsAsCharactersLet);
        sentence(where, "ITEM: an ATOM, or an ATOM and a REPEAT.", PatternEdgesTest::anItemIsAnAtomFirst);
        sentence(where, "'*' (at least 0 times)", PatternEdgesTest::atLeastZeroTimes);
        sentence(where, "'+' (at least once)", PatternEdgesTest::atLeastOnce);
        sentence(where, "'?' (0 or 1 times)", PatternEdgesTest::zeroOrOneTimes);
        sentence(where, "'{', a digit, '}' (just so many times)", PatternEdgesTest::justSoManyTimes);
        sentence(where, "'{', a digit, '}'", PatternEdgesTest::oneDigitBetweenBraces);
        sentence(where, "with nothing behind it (greedy), with '?' behind it (lazy), or with '+' behind it (possessive).", PatternEdgesTest::oneMannerAtMost);
        sentence(where, "the rules are read from left to right; a row has at most one reading", PatternEdgesTest::onlyOneReading);
        sentence(where, "'[', '^' or not, one or more of a letter", PatternEdgesTest::classOfOneOrMore);
        sentence(where, "or a letter, '-', a letter not before it, ']'", PatternEdgesTest::rangeOfAClass);
        sentence(where, "'\\', a digit 1 .. 4", PatternEdgesTest::digitBehindBackslash);
        sentence(where, "\"(?\", a digit 0 .. 4, ')'", PatternEdgesTest::digitOfACall);
        sentence(where, "or '(', nothing or one of \"?:\", \"?=\", \"?!\", \"?>\", a CHOICE, ')'.", PatternEdgesTest::nothingElseBehindAnOpening);
        sentence(where, "Digits stand nowhere else.", PatternEdgesTest::digitsNowhereElse);
        sentence(where, "there are at most 4.", PatternEdgesTest::atMostFourGroups);
        sentence(where, "the groups are numbered 1, 2, .. in the order of their '('", PatternEdgesTest::numberedByOpening);
        sentence(where, "No '(' of a CHOICE is inside of more than 5 others.", PatternEdgesTest::insideOfFiveOthers);
        sentence(where, "inside of more than 5 others", PatternEdgesTest::othersThatAreClosed);
        sentence(where, "No '(' of a CHOICE", PatternEdgesTest::onlyOpeningsOfAChoice);
        sentence(where, "is that of a group of the pattern, anywhere in it", PatternEdgesTest::groupsAnywhere);
        sentence(where, "or for the latter 0, which is the whole pattern.", PatternEdgesTest::zeroForCallsAlone);
        where = "SIZE";
        sentence(where, "of an ATOM with a CHOICE that of the CHOICE and 2, of another ATOM 1", PatternEdgesTest::sizeOfAtoms);
        sentence(where, "of an ITEM with '{' d '}' (d times that of the ATOM) and 1", PatternEdgesTest::sizeOfTimes);
        sentence(where, "with '+' (twice that of the ATOM) and 2", PatternEdgesTest::sizeOfPlus);
        sentence(where, "with another REPEAT that of the ATOM and 2", PatternEdgesTest::sizeOfOtherRepeats);
        sentence(where, "of a ROW the sum of its ITEMS; of a CHOICE the sum of its ROWS and 1 for each '|'.", PatternEdgesTest::sizeOfRowsAndChoices);
        sentence("Promise 3", "Its SIZE is above 60: FULL.", PatternEdgesTest::sizeSixtyAndOneMore);
        sentence("Promise 3", "Its SIZE is above 60", PatternEdgesTest::noSizeByWrapAround);
        tell();
    }
}

/**
 * What the tests with answers worked out by hand have in common: asking, comparing, and telling
 * which sentence of the document does not hold.
 */
abstract class Asking {
    static final int REFUSED = PatternBench.REFUSED;
    static final int FULL = PatternBench.FULL;
    static final int WRONG = PatternBench.WRONG;
    static final int NONE = PatternBench.NONE;
    static final int STOPPED = PatternBench.STOPPED;
    static final int UNSET = PatternBench.UNSET;
    static final int MIN = Integer.MIN_VALUE;
    static final int MAX = Integer.MAX_VALUE;

    private static final int MOST_LINES = 40;

    private static int wrong = 0;
    private static int asked = 0;
    private static int sentences = 0;

    static void due(String what, int got, int want) {
        asked++;
        if (got != want) {
            wrong++;
            if (wrong <= MOST_LINES) {
                System.out.println(what + " answered " + got + ", due is " + want);
            }
        }
    }

    /** The test of one sentence; that an answer is missing or thrown away is wrong as well. */
    static void sentence(String where, String words, Runnable test) {
        int wrongBefore = wrong;
        int askedBefore = asked;
        sentences++;
        try {
            test.run();
        } catch (RuntimeException | StackOverflowError thrown) {
            due(where + " threw " + thrown + ": this", 1, 0);
        }
        due(where + " was asked about: this", asked > askedBefore ? 1 : 0, 1);
        if (wrong > wrongBefore) {
            System.out.println("does not hold: " + where + ": " + words);
        }
    }

    /** Ends the program with code 1 if an answer was wrong. */
    static void tell() {
        String about = sentences == 0 ? "" : " on " + sentences + " sentences";
        System.out.println(asked - wrong + " of " + asked + " answers" + about + " are as due");
        if (wrong != 0) {
            System.exit(1);
        }
    }

    static void write(PatternBench x, String pattern) {
        for (int k = 0; k < pattern.length(); k++) {
            x.write(pattern.charAt(k));
        }
    }

    static int compile(PatternBench x, String pattern) {
        write(x, pattern);
        return x.compile();
    }

    static void feed(PatternBench x, String letters) {
        for (int k = 0; k < letters.length(); k++) {
            x.feed(letters.charAt(k));
        }
    }

    /** A new object with a ready pattern and a subject. */
    static PatternBench bench(int limit, String pattern, String subject) {
        PatternBench x = new PatternBench(limit);
        due("compile " + pattern + " is good", compile(x, pattern) >= 0 ? 1 : 0, 1);
        feed(x, subject);
        due("the subject " + subject + " is fed", x.count(1), subject.length());
        return x;
    }

    /** A search from 0: where the match begins and ends, its steps, and the places of groups 1, 2, .. */
    static void finds(String pattern, String subject, int... places) {
        PatternBench x = bench(300, pattern, subject);
        String what = pattern + " in " + subject + ": ";
        due(what + "search", x.search(0), places[0]);
        due(what + "start 0", x.start(0), places[0]);
        due(what + "end 0", x.end(0), places[1]);
        due(what + "steps", x.steps(), places[2]);
        for (int group = 1; group <= 4; group++) {
            boolean told = 2 * group + 2 < places.length;
            due(what + "start " + group, x.start(group), told ? places[2 * group + 1] : UNSET);
            due(what + "end " + group, x.end(group), told ? places[2 * group + 2] : UNSET);
        }
    }

    static void findsNone(String pattern, String subject, int steps) {
        PatternBench x = bench(300, pattern, subject);
        String what = pattern + " in " + subject + ": ";
        due(what + "search", x.search(0), NONE);
        due(what + "steps", x.steps(), steps);
        noMatch(what, x);
    }

    static void stops(int limit, String pattern, String subject) {
        PatternBench x = bench(limit, pattern, subject);
        String what = pattern + " in " + subject + " with limit " + limit + ": ";
        due(what + "search", x.search(0), STOPPED);
        due(what + "steps", x.steps(), limit);
        noMatch(what, x);
    }

    static void noMatch(String what, PatternBench x) {
        for (int group = 0; group <= 4; group++) {
            due(what + " start " + group, x.start(group), UNSET);
            due(what + " end " + group, x.end(group), UNSET);
        }
    }

    static void good(String pattern, int groups, int size) {
        PatternBench x = new PatternBench(20);
        due("compile " + pattern, compile(x, pattern), groups);
        due("groups of " + pattern, x.count(2), groups);
        due("SIZE of " + pattern, x.count(3), size);
        due("written after " + pattern, x.count(0), 0);
    }

    /** Answers WRONG or FULL, which leave the pattern that was ready. */
    static void notTaken(int answer, String... patterns) {
        for (String pattern : patterns) {
            PatternBench x = new PatternBench(20);
            write(x, pattern);
            due("written of " + pattern, x.count(0), pattern.length());
            due("compile " + pattern, x.compile(), answer);
            due("written after " + pattern, x.count(0), 0);
            due("groups after " + pattern, x.count(2), NONE);
            due("SIZE after " + pattern, x.count(3), NONE);
        }
    }

    static void isWrong(String... patterns) {
        notTaken(WRONG, patterns);
    }

    static String a(int times) {
        return "a".repeat(times);
    }

    static String b(int times) {
        return "b".repeat(times);
    }
}

import java.util.Random;

/**
 * Many runs of calls, each told by a fixed seed, on a PatternBench and on the Model; every answer
 * must be the same. An argument sets how many runs there are, a second one the first seed.
 */
public final class ModelTest {
    /** What an object answers after so many calls is free. */
    private static final int MOST_CALLS = 512;
    private static final int MOST_CALLS_A_ROUND = 120;
    private static final String SIGNS = "|()?:=!>[]-^$.*+{}\\abc01234";
    private static final int[] ODD_NUMBERS = {-1, 5, 41, 96, 123, 64, 0, 255, 256 + 'a', 65536 + '*', 65536 + 'a',
        Integer.MIN_VALUE, Integer.MAX_VALUE};
    /** Patterns that go deep, leave many choices, or make many turns. */
    private static final String[] HARD = {
        "(a??a??a??a??a??a??(?1)?(?1)?)", "(?:a??a??a??a??a??a??a??a??a)*b", "((?1)?(?1)?a??b??)*$",
        "(a??(?1)?a??a??a??a??a??a??)+b", "(?:(?:(?:a*)*)*)*b", "(?:(?:(?:a*?)*?)*?)*?b", "((a|b|(?1))*)*c",
        "(?0)?(?0)?a", "((?!(?1))|a)*b", "(?:(?=(a*))\\1a?)*b", "((?>(?1)?a?)+?b??)*c", "(|||||||||||||||||||)*b",
        "(a?+(?1)*+b{0}+a{0}+a{0}+)++c", "(?:(a)|b\\1)*?c", "((?2)?(a(?1)?)?)+b", "(?!(?!(?!(?!(?!(?!a))))))b",
        "(?:a{2}+?|a)*", "(a{9}){3}|a{9}", "(?:(?:|a){9}){2}b", "((?1){9}a??b??)", "((?1)*?a??)*?b"};

    private final Random random;
    private final long seed;
    private final int limit;
    private final PatternBench bench;
    private final Model model;
    private final StringBuilder told = new StringBuilder();
    private int calls = 0;
    private boolean differs = false;

    private ModelTest(long seed) {
        this.seed = seed;
        random = new Random(seed);
        limit = random.nextInt(3) == 0 ? random.nextInt(360) - 20 : 300;
        bench = new PatternBench(limit);
        model = new Model(limit);
    }

    private void due(String call, int got, int want) {
        calls++;
        told.append(call).append(' ').append(want).append('\n');
        if (got != want && !differs) {
            differs = true;
            System.out.println("seed " + seed + ", limit " + limit + ":\n" + told + "but answered " + got);
        }
    }

    private void write(String pattern) {
        for (int k = 0; k < pattern.length(); k++) {
            int c = pattern.charAt(k);
            due("write " + (char) c, bench.write(c), model.write(c));
        }
    }

    private void feed(int letter) {
        due("feed " + letter, bench.feed(letter), model.feed(letter));
    }

    private void feedSome() {
        int letters = 1 + random.nextInt(3);
        int many = random.nextInt(random.nextBoolean() ? 6 : 25);
        for (int k = 0; k < many; k++) {
            feed('a' + random.nextInt(letters));
        }
    }

    private void oddCalls() {
        int n = random.nextInt(4) == 0 ? random.nextInt(140) - 5 : ODD_NUMBERS[random.nextInt(ODD_NUMBERS.length)];
        switch (random.nextInt(8)) {
            case 0 -> due("write " + n, bench.write(n), model.write(n));
            case 1 -> due("feed " + n, bench.feed(n), model.feed(n));
            case 2 -> due("search " + n, bench.search(n), model.search(n));
            case 3 -> due("start " + n, bench.start(n), model.start(n));
            case 4 -> due("end " + n, bench.end(n), model.end(n));
            case 5 -> due("count " + n, bench.count(n), model.count(n));
            case 6 -> due("clear", bench.clear(), model.clear());
            default -> due("compile", bench.compile(), model.compile());
        }
    }

    private void lookAround() {
        for (int group = 0; group <= 4; group++) {
            due("start " + group, bench.start(group), model.start(group));
            due("end " + group, bench.end(group), model.end(group));
        }
        due("steps", bench.steps(), model.steps());
        int what = random.nextInt(5);
        due("count " + what, bench.count(what), model.count(what));
    }

    private void searches() {
        int from = random.nextInt(3) == 0 ? random.nextInt(model.subject.length() + 2) : 0;
        due("search " + from, bench.search(from), model.search(from));
        lookAround();
        for (int k = random.nextInt(4); k > 0; k--) {
            due("again", bench.again(), model.again());
            due("steps", bench.steps(), model.steps());
            due("end 0", bench.end(0), model.end(0));
        }
        if (random.nextInt(2) == 0) {
            due("matches", bench.matches(), model.matches());
            due("steps", bench.steps(), model.steps());
            due("start 0", bench.start(0), model.start(0));
        }
    }

    private String repeat() {
        String[] all = {"*", "+", "?", "{0}", "{1}", "{2}", "{3}", "{9}"};
        String[] manners = {"", "", "?", "+"};
        return all[random.nextInt(random.nextInt(4) == 0 ? 8 : 3)] + manners[random.nextInt(4)];
    }

    private String atom(int room, int groups) {
        if (room > 3 && random.nextInt(3) == 0) {
            String[] open = {"(", "(", "(", "(?:", "(?=", "(?!", "(?>"};
            return open[random.nextInt(7)] + choice(room - 4, groups) + ")";
        }
        switch (random.nextInt(12)) {
            case 0:
                return ".";
            case 1:
                return new String[] {"[ab]", "[^a]", "[a-c]", "[^a-bc]", "[b-z]", "[^a-z]"}[random.nextInt(6)];
            case 2:
                return random.nextInt(3) == 0 ? "^" : "$";
            case 3:
                return "\\" + (1 + random.nextInt(groups));
            case 4:
            case 5:
                return "(?" + random.nextInt(groups + 1) + ")";
            default:
                return String.valueOf((char) ('a' + random.nextInt(random.nextInt(3) == 0 ? 3 : 2)));
        }
    }

    private String choice(int room, int groups) {
        StringBuilder made = new StringBuilder();
        for (int k = random.nextInt(5); k > 0 && made.length() < room; k--) {
            made.append(atom(room - made.length(), groups));
            if (random.nextInt(5) < 2) {
                made.append(repeat());
            }
            if (random.nextInt(5) == 0) {
                made.append('|');
            }
        }
        return made.toString();
    }

    private String pattern() {
        if (random.nextInt(12) == 0) {
            return HARD[random.nextInt(HARD.length)];
        }
        int groups = 1 + random.nextInt(3);
        String made = "";
        for (int k = 0; k < 40; k++) {
            made = choice(8 + random.nextInt(22), groups);
            if (made.length() <= 32 && made.chars().filter(c -> c == '(').count() > 0) {
                break;
            }
        }
        return random.nextInt(6) == 0 ? disturbed(made) : made;
    }

    private String disturbed(String made) {
        StringBuilder text = new StringBuilder(made);
        for (int k = random.nextInt(3); k >= 0; k--) {
            char sign = SIGNS.charAt(random.nextInt(SIGNS.length()));
            if (text.length() > 0 && random.nextBoolean()) {
                int at = random.nextInt(text.length());
                if (random.nextBoolean()) {
                    text.setCharAt(at, sign);
                } else {
                    text.deleteCharAt(at);
                }
            } else {
                text.insert(random.nextInt(text.length() + 1), sign);
            }
        }
        return text.toString();
    }

    private boolean run() {
        while (calls + MOST_CALLS_A_ROUND <= MOST_CALLS && !differs) {
            if (random.nextInt(3) == 0) {
                due("clear", bench.clear(), model.clear());
            }
            feedSome();
            String pattern = pattern();
            write(pattern.substring(0, Math.min(pattern.length(), 40)));
            due("compile", bench.compile(), model.compile());
            searches();
            if (random.nextInt(3) == 0) {
                oddCalls();
                lookAround();
            }
        }
        return !differs;
    }

    private static int differing(int runs, long first) {
        int wrong = 0;
        for (int k = 0; k < runs && wrong < 3; k++) {
            if (!new ModelTest(first + k).run()) {
                wrong++;
            }
        }
        return wrong;
    }

    public static void main(String[] args) throws InterruptedException {
        int runs = args.length > 0 ? Integer.parseInt(args[0]) : 6000;
        long first = args.length > 1 ? Long.parseLong(args[1]) : 1;
        // A run that does not come to its end counts as one that differs.
        int[] wrong = {1};
        // The model goes deeper with each step of a search than the stack of a common thread allows.
        Thread deep = new Thread(null, () -> wrong[0] = differing(runs, first), "model", 1L << 29);
        deep.start();
        deep.join();
        System.out.println(wrong[0] == 0 ? runs + " runs answered as the model" : "runs differ from the model");
        if (wrong[0] != 0) {
            System.exit(1);
        }
    }
}

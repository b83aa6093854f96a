import java.util.ArrayList;
import java.util.List;

/**
 * The document told once more, as slowly and as near to its words as can be: each kind of part
 * gives its RESULTS one by one to whoever wants them. PatternBench is measured against it.
 */
final class Model {
    /** Takes a result; true if no further one is wanted. */
    interface Taker {
        boolean take(int place, int[] captures);
    }

    /** A part of a pattern; calls is how many calls are being worked on around it. */
    interface Part {
        boolean results(int place, int[] captures, int calls, Taker taker);
    }

    static final class Stop extends RuntimeException {
        private static final long serialVersionUID = 1L;

        Stop() {
            super(null, null, false, false);
        }
    }

    static final class NotGood extends RuntimeException {
        private static final long serialVersionUID = 1L;

        NotGood() {
            super(null, null, false, false);
        }
    }

    /** A part with its SIZE. */
    record Sized(Part part, int size) {
    }

    /** A pattern that was read. */
    final class Reading {
        final String text;
        int at = 0;
        int groups = 0;
        int named = 0;
        Part[] choices = new Part[5];
        int size = 0;

        Reading(String text) {
            this.text = text;
            Sized whole = choice(0);
            if (at < text.length() || named > groups) {
                throw new NotGood();
            }
            choices[0] = whole.part();
            size = whole.size();
        }

        boolean sees(String wanted) {
            return text.startsWith(wanted, at);
        }

        boolean passes(String wanted) {
            if (!sees(wanted)) {
                return false;
            }
            at += wanted.length();
            return true;
        }

        void must(String wanted) {
            if (!passes(wanted)) {
                throw new NotGood();
            }
        }

        char one(char low, char high) {
            if (at >= text.length() || text.charAt(at) < low || text.charAt(at) > high) {
                throw new NotGood();
            }
            return text.charAt(at++);
        }

        Sized choice(int inside) {
            List<Part> rows = new ArrayList<>();
            Sized row = row(inside);
            rows.add(row.part());
            int sum = row.size();
            while (passes("|")) {
                row = row(inside);
                rows.add(row.part());
                sum += row.size() + 1;
            }
            return new Sized((p, c, calls, taker) -> {
                for (Part each : rows) {
                    if (each.results(p, c, calls, taker)) {
                        return true;
                    }
                }
                return false;
            }, sum);
        }

        Sized row(int inside) {
            List<Part> items = new ArrayList<>();
            int sum = 0;
            while (at < text.length() && !sees("|") && !sees(")")) {
                Sized item = item(inside);
                items.add(item.part());
                sum += item.size();
            }
            return new Sized(behindEachOther(items, 0), sum);
        }

        Sized item(int inside) {
            Sized atom = atom(inside);
            Part x = (p, c, calls, taker) -> {
                if (steps == limit) {
                    throw new Stop();
                }
                steps++;
                return atom.part().results(p, c, calls, taker);
            };
            int size = atom.size();
            if (passes("*")) {
                return new Sized(manner(star(x, false), star(x, true)), size + 2);
            }
            if (passes("+")) {
                return new Sized(manner(both(x, star(x, false)), both(x, star(x, true))), 2 * size + 2);
            }
            if (passes("?")) {
                Part greedy = (p, c, calls, taker) -> x.results(p, c, calls, taker) || taker.take(p, c);
                Part lazy = (p, c, calls, taker) -> taker.take(p, c) || x.results(p, c, calls, taker);
                return new Sized(manner(greedy, lazy), size + 2);
            }
            if (passes("{")) {
                int times = one('0', '9') - '0';
                must("}");
                List<Part> copies = new ArrayList<>();
                for (int k = 0; k < times; k++) {
                    copies.add(x);
                }
                Part all = behindEachOther(copies, 0);
                return new Sized(manner(all, all), times * size + 1);
            }
            return new Sized(x, size);
        }

        Part manner(Part greedy, Part lazy) {
            if (passes("?")) {
                return lazy;
            }
            return passes("+") ? firstOf(greedy) : greedy;
        }

        int group(char low) {
            int number = one(low, '4') - '0';
            named = Math.max(named, number);
            return number;
        }

        Sized atom(int inside) {
            if (sees("(?") && at + 2 < text.length() && Character.isDigit(text.charAt(at + 2))) {
                at += 2;
                int number = group('0');
                must(")");
                return new Sized((p, c, calls, taker) -> calls < 12
                    && choices[number].results(p, c, calls + 1, (q, d) -> taker.take(q, c)), 1);
            }
            if (passes("(")) {
                return bracket(inside);
            }
            if (passes("[")) {
                return new Sized(letters(letterClass()), 1);
            }
            if (passes("\\")) {
                return new Sized(same(group('1')), 1);
            }
            if (passes(".")) {
                return new Sized(letters("abcdefghijklmnopqrstuvwxyz"), 1);
            }
            if (passes("^")) {
                return new Sized((p, c, calls, taker) -> p == 0 && taker.take(p, c), 1);
            }
            if (passes("$")) {
                return new Sized((p, c, calls, taker) -> p == subject.length() && taker.take(p, c), 1);
            }
            return new Sized(letters(String.valueOf(one('a', 'z'))), 1);
        }

        Sized bracket(int inside) {
            if (inside > 5) {
                throw new NotGood();
            }
            if (passes("?:")) {
                return closed(inside, x -> x);
            }
            if (passes("?>")) {
                return closed(inside, Model::firstOf);
            }
            if (passes("?=")) {
                return closed(inside, x -> (p, c, calls, taker) ->
                    firstOf(x).results(p, c, calls, (q, d) -> taker.take(p, d)));
            }
            if (passes("?!")) {
                return closed(inside, x -> (p, c, calls, taker) ->
                    !x.results(p, c, calls, (q, d) -> true) && taker.take(p, c));
            }
            groups++;
            int number = groups;
            if (number > 4) {
                throw new NotGood();
            }
            return closed(inside, x -> {
                choices[number] = x;
                return (p, c, calls, taker) -> x.results(p, c, calls, (q, d) -> {
                    int[] e = d.clone();
                    e[2 * number - 2] = p;
                    e[2 * number - 1] = q;
                    return taker.take(q, e);
                });
            });
        }

        Sized closed(int inside, java.util.function.UnaryOperator<Part> kind) {
            Sized choice = choice(inside + 1);
            must(")");
            return new Sized(kind.apply(choice.part()), choice.size() + 2);
        }

        String letterClass() {
            boolean inverted = passes("^");
            StringBuilder in = new StringBuilder();
            do {
                char low = one('a', 'z');
                char high = passes("-") ? one(low, 'z') : low;
                for (char c = low; c <= high; c++) {
                    in.append(c);
                }
            } while (!passes("]"));
            StringBuilder all = new StringBuilder();
            for (char c = 'a'; c <= 'z'; c++) {
                if (inverted == (in.indexOf(String.valueOf(c)) < 0)) {
                    all.append(c);
                }
            }
            return all.toString();
        }
    }

    Part letters(String which) {
        return (p, c, calls, taker) ->
            p < subject.length() && which.indexOf(subject.charAt(p)) >= 0 && taker.take(p + 1, c);
    }

    Part same(int number) {
        return (p, c, calls, taker) -> {
            if (c[2 * number - 2] == PatternBench.UNSET) {
                return false;
            }
            String captured = subject.substring(c[2 * number - 2], c[2 * number - 1]);
            return subject.startsWith(captured, p) && taker.take(p + captured.length(), c);
        };
    }

    static Part firstOf(Part x) {
        return (p, c, calls, taker) -> {
            int[][] first = new int[2][];
            boolean has = x.results(p, c, calls, (q, d) -> {
                first[0] = new int[] {q};
                first[1] = d;
                return true;
            });
            return has && taker.take(first[0][0], first[1]);
        };
    }

    static Part both(Part x, Part y) {
        return (p, c, calls, taker) -> x.results(p, c, calls, (q, d) -> y.results(q, d, calls, taker));
    }

    static Part behindEachOther(List<Part> parts, int from) {
        return from == parts.size() ? (p, c, calls, taker) -> taker.take(p, c)
            : both(parts.get(from), behindEachOther(parts, from + 1));
    }

    static Part star(Part x, boolean lazy) {
        return new Part() {
            @Override
            public boolean results(int p, int[] c, int calls, Taker taker) {
                if (lazy && taker.take(p, c)) {
                    return true;
                }
                if (x.results(p, c, calls, (q, d) -> q == p ? taker.take(q, d) : results(q, d, calls, taker))) {
                    return true;
                }
                return !lazy && taker.take(p, c);
            }
        };
    }

    final int limit;
    String written = "";
    String subject = "";
    Reading ready = null;
    int[] match = null;
    int steps = 0;

    Model(int limit) {
        this.limit = limit < 20 ? 20 : limit > 300 ? 300 : limit;
    }

    int write(int character) {
        boolean may = character >= 'a' && character <= 'z' || character >= '0' && character <= '9'
            || character >= 0 && character < 256 && "|()?:=!>[]-^$.*+{}\\".indexOf(character) >= 0;
        if (!may) {
            return PatternBench.REFUSED;
        }
        if (written.length() == 32) {
            return PatternBench.FULL;
        }
        written += (char) character;
        return written.length();
    }

    int compile() {
        String text = written;
        written = "";
        Reading reading;
        try {
            reading = new Reading(text);
        } catch (NotGood notGood) {
            return PatternBench.WRONG;
        }
        if (reading.size > 60) {
            return PatternBench.FULL;
        }
        ready = reading;
        match = null;
        return ready.groups;
    }

    int feed(int letter) {
        if (letter < 97 || letter > 122) {
            return PatternBench.REFUSED;
        }
        if (subject.length() == 40) {
            return PatternBench.FULL;
        }
        subject += (char) letter;
        match = null;
        return subject.length();
    }

    int clear() {
        int before = subject.length();
        subject = "";
        match = null;
        return before;
    }

    int search(int from) {
        if (from < 0 || from > subject.length() || ready == null) {
            return PatternBench.REFUSED;
        }
        steps = 0;
        match = null;
        int[] unset = new int[8];
        java.util.Arrays.fill(unset, PatternBench.UNSET);
        try {
            for (int s = from; s <= subject.length(); s++) {
                int begin = s;
                boolean found = ready.choices[0].results(s, unset, 0, (q, d) -> {
                    match = new int[10];
                    match[0] = begin;
                    match[1] = q;
                    System.arraycopy(d, 0, match, 2, 8);
                    return true;
                });
                if (found) {
                    return s;
                }
            }
        } catch (Stop stop) {
            return PatternBench.STOPPED;
        }
        return PatternBench.NONE;
    }

    int behindMatch() {
        return match[1] > match[0] ? match[1] : match[1] + 1;
    }

    int again() {
        if (match == null || behindMatch() > subject.length()) {
            match = null;
            steps = 0;
            return PatternBench.NONE;
        }
        return search(behindMatch());
    }

    int start(int group) {
        return group < 0 || group > 4 ? PatternBench.REFUSED : match == null ? PatternBench.UNSET : match[2 * group];
    }

    int end(int group) {
        return group < 0 || group > 4 ? PatternBench.REFUSED : match == null ? PatternBench.UNSET : match[2 * group + 1];
    }

    int steps() {
        return steps;
    }

    int matches() {
        if (ready == null) {
            return PatternBench.REFUSED;
        }
        int found = 0;
        int made = 0;
        int answer = search(0);
        while (answer >= 0) {
            found++;
            made = steps;
            boolean searches = behindMatch() <= subject.length();
            answer = again();
            if (searches) {
                made = steps;
            }
        }
        if (found > 0) {
            steps = made;
        }
        match = null;
        return answer == PatternBench.STOPPED ? answer : found;
    }

    int count(int what) {
        switch (what) {
            case 0:
                return written.length();
            case 1:
                return subject.length();
            case 2:
                return ready == null ? PatternBench.NONE : ready.groups;
            case 3:
                return ready == null ? PatternBench.NONE : ready.size;
            default:
                return PatternBench.REFUSED;
        }
    }
}

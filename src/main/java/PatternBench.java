/**
 * A pattern matcher in the backtracking manner, with a limit of steps that stops a search.
 * The pattern is read into a Program once; a Matcher then walks it with rows of its own in
 * place of Java's stack, so that no call makes objects and none goes deep.
 */
public final class PatternBench {
    public static final int REFUSED = -1;
    public static final int FULL = -2;
    public static final int WRONG = -3;
    public static final int NONE = -4;
    public static final int STOPPED = -5;
    public static final int UNSET = -6;

    private static final int LEAST_LIMIT = 20;
    private static final int MOST_LIMIT = 300;
    private static final int MOST_CHARACTERS = 32;
    private static final int MOST_LETTERS = 40;
    private static final int MOST_GROUPS = 4;
    private static final int MOST_SIZE = 60;
    private static final int MOST_NESTING = 6;
    private static final int MOST_CALLS = 12;
    private static final String SIGNS = "|()?:=!>[]-^$.*+{}\\";

    /** Stands where there is no character, item or row. */
    private static final int NO = -1;

    /** Holds the pattern that is being written. */
    private final Reader reader = new Reader();
    /** Holds the subject and the ready pattern. */
    private final Matcher matcher;
    private boolean isReady = false;
    private boolean isMatched = false;
    private int matchStart = 0;
    private int matchEnd = 0;
    private long matchCaptures = 0L;
    private int lastSteps = 0;

    public PatternBench(int limit) {
        matcher = new Matcher(Math.max(LEAST_LIMIT, Math.min(MOST_LIMIT, limit)));
    }

    public int write(int character) {
        if (!mayStandInPattern(character)) {
            return REFUSED;
        }
        return reader.text.isFull() ? FULL : reader.text.add(character);
    }

    public int compile() {
        boolean isGood = reader.read();
        reader.text.length = 0;
        if (!isGood) {
            return WRONG;
        }
        if (reader.program.size > MOST_SIZE) {
            return FULL;
        }
        // The two change places, so that the next pattern is read into the one that is done with.
        Program made = reader.program;
        reader.program = matcher.program;
        matcher.program = made;
        isReady = true;
        isMatched = false;
        return made.groups;
    }

    public int feed(int letter) {
        if (!isLetter(letter)) {
            return REFUSED;
        }
        if (matcher.subject.isFull()) {
            return FULL;
        }
        isMatched = false;
        return matcher.subject.add(letter);
    }

    public int clear() {
        int before = matcher.subject.length;
        matcher.subject.length = 0;
        isMatched = false;
        return before;
    }

    public int search(int from) {
        if (from < 0 || from > matcher.subject.length || !isReady) {
            return REFUSED;
        }
        return searchFrom(from);
    }

    public int again() {
        int from = placeBehindMatch();
        if (!isMatched || from > matcher.subject.length) {
            isMatched = false;
            lastSteps = 0;
            return NONE;
        }
        return searchFrom(from);
    }

    public int start(int group) {
        if (group < 0 || group > MOST_GROUPS) {
            return REFUSED;
        }
        if (!isMatched) {
            return UNSET;
        }
        return group == 0 ? matchStart : Captures.from(matchCaptures, group);
    }

    public int end(int group) {
        if (group < 0 || group > MOST_GROUPS) {
            return REFUSED;
        }
        if (!isMatched) {
            return UNSET;
        }
        return group == 0 ? matchEnd : Captures.to(matchCaptures, group);
    }

    public int steps() {
        return lastSteps;
    }

    public int matches() {
        if (!isReady) {
            return REFUSED;
        }
        int found = 0;
        int from = 0;
        int answer = NONE;
        // Each search begins behind the one before, so there are no more of them than places.
        for (int turn = 0; turn <= MOST_LETTERS && from <= matcher.subject.length; turn++) {
            answer = searchFrom(from);
            if (answer < 0) {
                break;
            }
            found++;
            from = placeBehindMatch();
        }
        isMatched = false;
        return answer == STOPPED ? STOPPED : found;
    }

    public int count(int what) {
        switch (what) {
            case 0:
                return reader.text.length;
            case 1:
                return matcher.subject.length;
            case 2:
                return isReady ? matcher.program.groups : NONE;
            case 3:
                return isReady ? matcher.program.size : NONE;
            default:
                return REFUSED;
        }
    }

    private int searchFrom(int from) {
        int answer = matcher.find(from);
        isMatched = answer >= 0;
        matchStart = answer;
        matchEnd = matcher.place;
        matchCaptures = matcher.captures;
        lastSteps = matcher.taken;
        return answer;
    }

    private int placeBehindMatch() {
        return matchEnd == matchStart ? matchEnd + 1 : matchEnd;
    }

    private static boolean isLetter(int code) {
        return code >= 'a' && code <= 'z';
    }

    private static boolean isDigit(int code) {
        return code >= '0' && code <= '9';
    }

    private static boolean mayStandInPattern(int code) {
        if (isLetter(code) || isDigit(code)) {
            return true;
        }
        // The bound keeps a greater number from becoming a sign when it is cut to a char.
        return code > 0 && code < 128 && SIGNS.indexOf((char) code) >= 0;
    }

    /** A row of codes up to a bound: the pattern that is being written, or the subject. */
    private static final class Text {
        final int[] codes;
        int length = 0;

        Text(int most) {
            codes = new int[most];
        }

        boolean isFull() {
            return length >= codes.length;
        }

        int add(int code) {
            if (!isFull()) {
                codes[length] = code;
                length++;
            }
            return length;
        }

        int codeAt(int place) {
            return place >= 0 && place < length ? codes[place] : NO;
        }
    }

    /**
     * The captures of all four groups in one long, twelve bits a group: the two places, each
     * one higher so that 0 is UNSET. As a plain number they are kept and given back at no cost.
     */
    private static final class Captures {
        static final int GROUP_BITS = 12;
        static final int PLACE_BITS = 6;
        static final int PLACE_MASK = 63;
        static final long GROUP_MASK = 4095L;

        static long with(long captures, int group, int from, int to) {
            int shift = (group - 1) * GROUP_BITS;
            long both = (from + 1) | ((to + 1) << PLACE_BITS);
            return (captures & ~(GROUP_MASK << shift)) | (both << shift);
        }

        static int from(long captures, int group) {
            int raised = (int) (captures >>> ((group - 1) * GROUP_BITS)) & PLACE_MASK;
            return raised == 0 ? UNSET : raised - 1;
        }

        static int to(long captures, int group) {
            int raised = (int) (captures >>> ((group - 1) * GROUP_BITS + PLACE_BITS)) & PLACE_MASK;
            return raised == 0 ? UNSET : raised - 1;
        }
    }

    /**
     * A pattern that was read: ITEMS chained to ROWS and ROWS chained to CHOICES, by number.
     * Each item takes a character and each row but the first a '|' or a '(', so the rows here
     * hold every pattern.
     */
    private static final class Program {
        // What an item's atom is.
        static final int LETTER = 0;
        static final int FIRST_PLACE = 1;
        static final int LAST_PLACE = 2;
        static final int SAME = 3;
        static final int CALL = 4;
        static final int GROUP = 5;
        static final int PLAIN = 6;
        static final int AHEAD = 7;
        static final int NOT_AHEAD = 8;
        static final int ATOMIC = 9;

        // How often the atom is wanted. NEVER is '{0}'.
        static final int ONCE = 0;
        static final int NEVER = 1;
        static final int MAYBE = 2;
        static final int STAR = 3;
        static final int PLUS = 4;
        static final int TIMES = 5;

        static final int GREEDY = 0;
        static final int LAZY = 1;
        static final int POSSESSIVE = 2;

        final int[] kind = new int[MOST_CHARACTERS];
        /** A set of letters as bits, or the number of a group. */
        final int[] value = new int[MOST_CHARACTERS];
        final int[] repeat = new int[MOST_CHARACTERS];
        final int[] times = new int[MOST_CHARACTERS];
        final int[] manner = new int[MOST_CHARACTERS];
        /** The first row of the atom's own CHOICE. */
        final int[] body = new int[MOST_CHARACTERS];
        final int[] nextItem = new int[MOST_CHARACTERS];
        final int[] firstItem = new int[MOST_CHARACTERS + 1];
        final int[] nextRow = new int[MOST_CHARACTERS + 1];
        /** The first row of the CHOICE of each group; 0 is the whole pattern. */
        final int[] groupBody = new int[MOST_GROUPS + 1];
        int items = 0;
        int rows = 0;
        int groups = 0;
        int size = 0;

        void empty() {
            items = 0;
            rows = 0;
            groups = 0;
            size = 0;
        }

        int addRow() {
            int row = rows;
            firstItem[row] = NO;
            nextRow[row] = NO;
            rows++;
            return row;
        }

        int addItem(int itsKind, int itsValue) {
            int item = items;
            kind[item] = itsKind;
            value[item] = itsValue;
            repeat[item] = ONCE;
            times[item] = 1;
            manner[item] = GREEDY;
            body[item] = NO;
            nextItem[item] = NO;
            items++;
            return item;
        }
    }

    /**
     * Reads the pattern from left to right into a Program. A level is a CHOICE that is still
     * open; level 0 is the whole pattern.
     */
    private static final class Reader {
        private static final int ALL_LETTERS = (1 << 26) - 1;

        final Text text = new Text(MOST_CHARACTERS);
        Program program = new Program();
        private final int[] levelItem = new int[MOST_NESTING + 1];
        private final int[] levelRow = new int[MOST_NESTING + 1];
        private final int[] levelLast = new int[MOST_NESTING + 1];
        private final int[] levelSize = new int[MOST_NESTING + 1];
        private int level = 0;
        private int at = 0;
        private int atomSize = 0;
        private int highestNamed = 0;
        private boolean isGood = true;

        /** Whether the pattern is good; if not, what the Program holds is of no use. */
        boolean read() {
            program.empty();
            at = 0;
            highestNamed = 0;
            isGood = true;
            openLevel(0, NO);
            program.groupBody[0] = levelRow[0];
            // Every part takes a character at least, so there are no more parts than characters.
            for (int part = 0; part < MOST_CHARACTERS && isGood && at < text.length; part++) {
                int item = readPart();
                if (item != NO) {
                    readRepeat(item);
                }
            }
            program.size = levelSize[0];
            return isGood && level == 0 && highestNamed <= program.groups;
        }

        /** The item whose atom ends here, or NO. */
        private int readPart() {
            switch (ahead(0)) {
                case '|':
                    return openNextRow();
                case ')':
                    return closeChoice();
                case '(':
                    return ahead(1) == '?' && isDigit(ahead(2)) ? readCall() : openChoice();
                case '[':
                    return readClass();
                case '\\':
                    return readReference();
                default:
                    return readSign();
            }
        }

        private int ahead(int distance) {
            return text.codeAt(at + distance);
        }

        private int refuse() {
            isGood = false;
            return NO;
        }

        private void openLevel(int newLevel, int item) {
            level = newLevel;
            levelItem[level] = item;
            levelRow[level] = program.addRow();
            levelLast[level] = NO;
            levelSize[level] = 0;
        }

        private int openNextRow() {
            int row = program.addRow();
            program.nextRow[levelRow[level]] = row;
            levelRow[level] = row;
            levelLast[level] = NO;
            levelSize[level]++;
            at++;
            return NO;
        }

        private int openChoice() {
            int kind = kindOfChoice();
            boolean isGroup = kind == Program.GROUP;
            if (kind == NO || level >= MOST_NESTING || (isGroup && program.groups >= MOST_GROUPS)) {
                return refuse();
            }
            if (isGroup) {
                program.groups++;
            }
            int item = appendItem(kind, isGroup ? program.groups : 0);
            at += isGroup ? 1 : 3;
            openLevel(level + 1, item);
            program.body[item] = levelRow[level];
            if (isGroup) {
                program.groupBody[program.groups] = levelRow[level];
            }
            return NO;
        }

        private int kindOfChoice() {
            if (ahead(1) != '?') {
                return Program.GROUP;
            }
            switch (ahead(2)) {
                case ':':
                    return Program.PLAIN;
                case '=':
                    return Program.AHEAD;
                case '!':
                    return Program.NOT_AHEAD;
                case '>':
                    return Program.ATOMIC;
                default:
                    return NO;
            }
        }

        private int closeChoice() {
            if (level == 0) {
                return refuse();
            }
            int item = levelItem[level];
            atomSize = levelSize[level] + 2;
            level--;
            at++;
            return item;
        }

        private int readCall() {
            int group = ahead(2) - '0';
            if (group > MOST_GROUPS || ahead(3) != ')') {
                return refuse();
            }
            highestNamed = Math.max(highestNamed, group);
            at += 4;
            return appendItem(Program.CALL, group);
        }

        private int readReference() {
            int group = ahead(1) - '0';
            if (group < 1 || group > MOST_GROUPS) {
                return refuse();
            }
            highestNamed = Math.max(highestNamed, group);
            at += 2;
            return appendItem(Program.SAME, group);
        }

        private int readSign() {
            int code = ahead(0);
            at++;
            if (isLetter(code)) {
                return appendItem(Program.LETTER, lettersBetween(code, code));
            }
            switch (code) {
                case '.':
                    return appendItem(Program.LETTER, ALL_LETTERS);
                case '^':
                    return appendItem(Program.FIRST_PLACE, 0);
                case '$':
                    return appendItem(Program.LAST_PLACE, 0);
                default:
                    return refuse();
            }
        }

        private int readClass() {
            boolean isInverted = ahead(1) == '^';
            at += isInverted ? 2 : 1;
            int letters = 0;
            for (int turn = 0; turn < MOST_CHARACTERS && isGood && isLetter(ahead(0)); turn++) {
                letters |= readClassPart();
            }
            if (letters == 0 || ahead(0) != ']') {
                return refuse();
            }
            at++;
            return appendItem(Program.LETTER, isInverted ? ALL_LETTERS & ~letters : letters);
        }

        private int readClassPart() {
            int low = ahead(0);
            if (ahead(1) != '-') {
                at++;
                return lettersBetween(low, low);
            }
            int high = ahead(2);
            at += 3;
            if (!isLetter(high) || high < low) {
                isGood = false;
                return 0;
            }
            return lettersBetween(low, high);
        }

        private static int lettersBetween(int low, int high) {
            return ((2 << (high - low)) - 1) << (low - 'a');
        }

        private int appendItem(int kind, int value) {
            int item = program.addItem(kind, value);
            if (levelLast[level] == NO) {
                program.firstItem[levelRow[level]] = item;
            } else {
                program.nextItem[levelLast[level]] = item;
            }
            levelLast[level] = item;
            atomSize = 1;
            return item;
        }

        private void readRepeat(int item) {
            switch (ahead(0)) {
                case '*':
                    setRepeat(item, Program.STAR, 1, atomSize + 2);
                    break;
                case '+':
                    setRepeat(item, Program.PLUS, 1, 2 * atomSize + 2);
                    break;
                case '?':
                    setRepeat(item, Program.MAYBE, 1, atomSize + 2);
                    break;
                case '{':
                    readTimes(item);
                    break;
                default:
                    levelSize[level] += atomSize;
                    break;
            }
        }

        private void readTimes(int item) {
            if (!isDigit(ahead(1)) || ahead(2) != '}') {
                isGood = false;
                return;
            }
            int times = ahead(1) - '0';
            program.times[item] = times;
            setRepeat(item, times == 0 ? Program.NEVER : Program.TIMES, 3, times * atomSize + 1);
        }

        private void setRepeat(int item, int repeat, int characters, int size) {
            program.repeat[item] = repeat;
            levelSize[level] += size;
            at += characters;
            if (ahead(0) == '?') {
                program.manner[item] = Program.LAZY;
                at++;
            } else if (ahead(0) == '+') {
                program.manner[item] = Program.POSSESSIVE;
                at++;
            }
        }
    }

    /**
     * What stands around the place in the pattern where the matcher is, the innermost first: a
     * CHOICE that is walked for an atom, or the turn of a repeat. Frames are never changed, so a
     * choice that was left open finds those it was made under, the depth of calls among them.
     */
    private static final class Frames {
        static final int WHOLE = 0;
        static final int BODY = 1;
        static final int CALLED = 2;
        static final int STAR_TURN = 3;
        static final int PLUS_TURN = 4;
        static final int TIMES_TURN = 5;
        static final int HELD = 6;

        final int[] kind;
        final int[] item;
        /** How many choices were open when the frame was made, or the turns that are left. */
        final int[] mark;
        final int[] place;
        final long[] captures;
        final int[] outer;
        final int[] calls;
        int used = 1;

        Frames(int most) {
            kind = new int[most];
            item = new int[most];
            mark = new int[most];
            place = new int[most];
            captures = new long[most];
            outer = new int[most];
            calls = new int[most];
        }

        /** Frame 0 stays as Java makes it: the WHOLE pattern, within no call. */
        void empty() {
            used = 1;
        }

        boolean hasRoom(int wanted) {
            return used + wanted <= kind.length;
        }

        int add(int itsKind, int itsItem, int itsMark, int itsPlace, long itsCaptures, int itsOuter) {
            int frame = used;
            kind[frame] = itsKind;
            item[frame] = itsItem;
            mark[frame] = itsMark;
            place[frame] = itsPlace;
            captures[frame] = itsCaptures;
            outer[frame] = itsOuter;
            calls[frame] = itsKind == CALLED ? calls[itsOuter] + 1 : calls[itsOuter];
            used++;
            return frame;
        }
    }

    /** The choices that are open, the newest last: what to go on with when the way in hand fails. */
    private static final class Choices {
        final int[] task;
        final int[] number;
        final int[] place;
        final long[] captures;
        final int[] frame;
        int used = 0;

        Choices(int most) {
            task = new int[most];
            number = new int[most];
            place = new int[most];
            captures = new long[most];
            frame = new int[most];
        }

        boolean hasRoom(int wanted) {
            return used + wanted <= task.length;
        }

        void add(int itsTask, int itsNumber, int itsPlace, long itsCaptures, int itsFrame) {
            task[used] = itsTask;
            number[used] = itsNumber;
            place[used] = itsPlace;
            captures[used] = itsCaptures;
            frame[used] = itsFrame;
            used++;
        }

        void cutTo(int open) {
            if (open < used) {
                used = open;
            }
        }
    }

    /**
     * Walks a Program, one task a turn. When a search is over, place and captures are those of
     * the match and taken is the number of its steps.
     */
    private static final class Matcher {
        // The tasks. ROW is about a row, the others up to DONE about an item.
        private static final int ROW = 0;
        private static final int ITEM = 1;
        private static final int TRY = 2;
        private static final int ASK = 3;
        private static final int AFTER = 4;
        private static final int DONE = 5;
        private static final int RESUME = 6;
        private static final int FAIL = 7;
        private static final int FOUND = 8;
        private static final int EXHAUSTED = 9;
        private static final int HALTED = 10;

        /** Far above what the limit of steps lets a search need. */
        private static final int MOST_TURNS = 1000000;
        /** A step comes with a frame of its atom, one of a repeat's turn and a HELD one at most. */
        private static final int FRAMES_A_STEP = 3;
        /**
         * A step comes with a "(?!" to leave, a row to try next, a turn of a star to leave, and
         * at most ten lazy repeats of three characters in the row that it opens.
         */
        private static final int CHOICES_A_STEP = 13;
        private static final int SPARE = 4;

        final Text subject = new Text(MOST_LETTERS);
        Program program = new Program();
        private final int limit;
        private final Frames frames;
        private final Choices choices;
        private int task = EXHAUSTED;
        private int number = NO;
        private int frame = 0;
        int place = 0;
        long captures = 0L;
        int taken = 0;

        Matcher(int limit) {
            this.limit = limit;
            frames = new Frames(FRAMES_A_STEP * (limit + 1) + SPARE);
            choices = new Choices(CHOICES_A_STEP * (limit + 1) + SPARE);
        }

        /** The place where the match begins, NONE or STOPPED. */
        int find(int from) {
            taken = 0;
            for (int begin = from; begin <= subject.length; begin++) {
                beginAt(begin);
                for (int turn = 0; turn < MOST_TURNS && goesOn(); turn++) {
                    takeTurn();
                }
                if (task != EXHAUSTED) {
                    return task == FOUND ? begin : STOPPED;
                }
            }
            return NONE;
        }

        private void beginAt(int begin) {
            frames.empty();
            choices.cutTo(0);
            frame = 0;
            place = begin;
            captures = 0L;
            go(ROW, program.groupBody[0]);
        }

        /** A turn adds two frames and one choice at most. */
        private boolean goesOn() {
            return task < FOUND && frames.hasRoom(2) && choices.hasRoom(1);
        }

        private void go(int nextTask, int nextNumber) {
            task = nextTask;
            number = nextNumber;
        }

        private void takeTurn() {
            switch (task) {
                case ROW:
                    enterRow(number);
                    break;
                case ITEM:
                    enterItem(number);
                    break;
                case TRY:
                    tryAtom(number);
                    break;
                case ASK:
                    ask(number);
                    break;
                case AFTER:
                    goAfterAtom(number);
                    break;
                case DONE:
                    goAfterItem(number);
                    break;
                case RESUME:
                    resume(frame);
                    break;
                default:
                    takeChoice();
                    break;
            }
        }

        private void enterRow(int row) {
            int other = program.nextRow[row];
            if (other != NO) {
                choices.add(ROW, other, place, captures, frame);
            }
            go(ITEM, program.firstItem[row]);
        }

        private void enterItem(int item) {
            if (item == NO) {
                task = RESUME;
                return;
            }
            int repeat = program.repeat[item];
            if (repeat == Program.NEVER) {
                go(ITEM, program.nextItem[item]);
                return;
            }
            if (program.manner[item] == Program.POSSESSIVE) {
                frame = frames.add(Frames.HELD, item, choices.used, place, captures, frame);
            }
            if (repeat == Program.MAYBE || repeat == Program.STAR) {
                fork(item);
                return;
            }
            if (repeat == Program.PLUS) {
                frame = frames.add(Frames.PLUS_TURN, item, 0, place, captures, frame);
            } else if (repeat == Program.TIMES) {
                frame = frames.add(Frames.TIMES_TURN, item, program.times[item], place, captures, frame);
            }
            go(ASK, item);
        }

        /** Between one more turn of the atom and none. */
        private void fork(int item) {
            boolean isLazy = program.manner[item] == Program.LAZY;
            choices.add(isLazy ? TRY : DONE, item, place, captures, frame);
            go(isLazy ? DONE : TRY, item);
        }

        private void tryAtom(int item) {
            if (program.repeat[item] != Program.MAYBE) {
                frame = frames.add(Frames.STAR_TURN, item, 0, place, captures, frame);
            }
            go(ASK, item);
        }

        private void goAfterAtom(int item) {
            int repeat = program.repeat[item];
            // Every other repeat has put a frame around its atom that knows how to go on.
            if (repeat == Program.ONCE || repeat == Program.MAYBE) {
                goAfterItem(item);
            } else {
                task = RESUME;
            }
        }

        private void goAfterItem(int item) {
            if (program.manner[item] == Program.POSSESSIVE) {
                task = RESUME;
            } else {
                go(ITEM, program.nextItem[item]);
            }
        }

        private void takeChoice() {
            if (choices.used == 0) {
                task = EXHAUSTED;
                return;
            }
            int newest = choices.used - 1;
            choices.cutTo(newest);
            place = choices.place[newest];
            captures = choices.captures[newest];
            frame = choices.frame[newest];
            go(choices.task[newest], choices.number[newest]);
        }

        private void ask(int item) {
            if (taken >= limit) {
                task = HALTED;
                return;
            }
            taken++;
            switch (program.kind[item]) {
                case Program.LETTER:
                    askLetter(item);
                    break;
                case Program.FIRST_PLACE:
                    task = place == 0 ? AFTER : FAIL;
                    break;
                case Program.LAST_PLACE:
                    task = place == subject.length ? AFTER : FAIL;
                    break;
                case Program.SAME:
                    askSame(program.value[item]);
                    break;
                case Program.CALL:
                    askCall(item);
                    break;
                default:
                    askBody(item);
                    break;
            }
        }

        private void askLetter(int item) {
            if (place < subject.length && (program.value[item] >> (subject.codes[place] - 'a') & 1) != 0) {
                place++;
                task = AFTER;
            } else {
                task = FAIL;
            }
        }

        private void askSame(int group) {
            int from = Captures.from(captures, group);
            int length = Captures.to(captures, group) - from;
            if (from != UNSET && standsHere(from, length)) {
                place += length;
                task = AFTER;
            } else {
                task = FAIL;
            }
        }

        private boolean standsHere(int from, int length) {
            if (place + length > subject.length) {
                return false;
            }
            for (int offset = 0; offset < length; offset++) {
                if (subject.codes[from + offset] != subject.codes[place + offset]) {
                    return false;
                }
            }
            return true;
        }

        private void askCall(int item) {
            if (frames.calls[frame] >= MOST_CALLS) {
                task = FAIL;
                return;
            }
            frame = frames.add(Frames.CALLED, item, 0, place, captures, frame);
            go(ROW, program.groupBody[program.value[item]]);
        }

        private void askBody(int item) {
            int open = choices.used;
            if (program.kind[item] == Program.NOT_AHEAD) {
                choices.add(AFTER, item, place, captures, frame);
            }
            frame = frames.add(Frames.BODY, item, open, place, captures, frame);
            go(ROW, program.body[item]);
        }

        /** What the frame encloses has a result: goes on around it. */
        private void resume(int ended) {
            int item = frames.item[ended];
            frame = frames.outer[ended];
            switch (frames.kind[ended]) {
                case Frames.BODY:
                    leaveBody(ended, item);
                    break;
                case Frames.CALLED:
                    captures = frames.captures[ended];
                    go(AFTER, item);
                    break;
                case Frames.STAR_TURN:
                    if (place == frames.place[ended]) {
                        go(DONE, item);
                    } else {
                        fork(item);
                    }
                    break;
                case Frames.PLUS_TURN:
                    fork(item);
                    break;
                case Frames.TIMES_TURN:
                    leaveTimesTurn(ended, item);
                    break;
                case Frames.HELD:
                    choices.cutTo(frames.mark[ended]);
                    go(ITEM, program.nextItem[item]);
                    break;
                default:
                    task = FOUND;
                    break;
            }
        }

        private void leaveTimesTurn(int ended, int item) {
            int left = frames.mark[ended] - 1;
            if (left <= 0) {
                go(DONE, item);
            } else {
                frame = frames.add(Frames.TIMES_TURN, item, left, place, captures, frame);
                go(ASK, item);
            }
        }

        private void leaveBody(int ended, int item) {
            int kind = program.kind[item];
            if (kind == Program.AHEAD || kind == Program.NOT_AHEAD || kind == Program.ATOMIC) {
                choices.cutTo(frames.mark[ended]);
            }
            if (kind == Program.GROUP) {
                captures = Captures.with(captures, program.value[item], frames.place[ended], place);
            } else if (kind == Program.AHEAD) {
                place = frames.place[ended];
            }
            go(kind == Program.NOT_AHEAD ? FAIL : AFTER, item);
        }
    }
}

import java.util.Arrays;

/** Gradings of a hall: cards, rules, panels, days, marks and strikes. See README.md. */
public final class BeltHall {
    private static final int LOW = -1000000;
    private static final int BEYOND = LOW - 1;
    private static final int NONE = LOW - 2;
    private static final int STATE = LOW - 3;
    private static final int FULL = LOW - 4;
    private static final int KIND = LOW - 5;
    private static final int FINDINGS = 5;

    private static final int PUPIL = 0;
    private static final int EXAMINER = 1;
    private static final int CHILD = 2;
    private static final int CHILD_GRADES = 4;

    private static final int LAST_DAY = 30000;
    private static final int UNIONS = 3;
    private static final int GRADES = 10;
    private static final int HALLS = 8;
    private static final int PARTS = 8;
    private static final int MOST_DAYS_SINCE = 4000;
    private static final int MOST_AGE = 20000;
    private static final int MOST_MARK = 100;
    private static final int MOST_LOAD = 4;

    private static final int MOST_PERSONS = 20;
    private static final int MOST_EXAMINERS = 6;
    private static final int MOST_RULES = 40;
    private static final int MOST_ENTRIES = 60;
    private static final int MOST_STRIKES = 20;
    private static final int MOST_CANDIDATES = 4;
    private static final int MOST_EXAMS = 20;
    private static final int MOST_TOLD = 20;

    private static final int PANEL_SIZE = 3;
    /** Ways to take three of six examiners. */
    private static final int MOST_PANELS = 20;
    private static final int MARKS = 5;
    private static final int MIDDLE_RANK = 3;
    private static final int TOO_MANY_TOLD = 99;

    private final Books books = new Books();
    private final Candidates candidates = new Candidates();
    private final Exams exams = new Exams();
    private final int[] numbers = new int[MOST_TOLD];
    private final int[] findings = new int[FINDINGS + 1];
    private int numberCount;

    public BeltHall() {
    }

    // ---- persons and rules

    public int person(int kind, int born, int hall) {
        if (!isKind(kind) || !isDay(born) || !isWithin(hall, 0, HALLS - 1)) {
            return finding(BEYOND);
        }
        if (!books.persons.hasRoomFor(kind)) {
            return finding(FULL);
        }
        return books.persons.add(kind, born, hall);
    }

    public int as(int p, int kind) {
        if (!books.persons.holds(p) || !isKind(kind)) {
            return finding(BEYOND);
        }
        if (kind != PUPIL && books.persons.kind[p] != kind) {
            return finding(KIND);
        }
        return books.persons.home[p];
    }

    public int licence(int p, int day) {
        if (!books.persons.holds(p) || !isDay(day)) {
            return finding(BEYOND);
        }
        int before = books.persons.licensed[p];
        books.persons.licensed[p] = day;
        return before;
    }

    public int part(int p, int part, int day) {
        if (!books.persons.holds(p) || !isWithin(part, 0, PARTS - 1) || !isWithin(day, -1, LAST_DAY)) {
            return finding(BEYOND);
        }
        int place = p * PARTS + part;
        int before = books.persons.passed[place];
        books.persons.passed[place] = day;
        return before;
    }

    public int worth(int u, int v, int g, int what) {
        if (!isUnion(u) || !isUnion(v) || !isGrade(g) || u == v || !isWithin(what, 0, GRADES)) {
            return finding(BEYOND);
        }
        int before = books.cards.value(u, v, g);
        books.cards.setValue(u, v, g, what);
        return before;
    }

    public int way(int u, int how) {
        if (!isUnion(u) || !isWithin(how, 0, 1)) {
            return finding(BEYOND);
        }
        int before = books.cards.ways[u];
        books.cards.ways[u] = how;
        return before;
    }

    public int rule(int first, int from, int days, int age, int panel) {
        if (first < 0 || !isUnion(first / 100) || !isGrade(first % 100) || !isDay(from)
                || !isWithin(days, 0, MOST_DAYS_SINCE) || !isWithin(age, 0, MOST_AGE)
                || panel < 0 || panel >> 4 >= 1 << PARTS || (panel & 15) > GRADES) {
            return finding(BEYOND);
        }
        if (books.rules.size >= MOST_RULES) {
            return finding(FULL);
        }
        books.rules.add(first, from, days, age, panel);
        return books.rules.size;
    }

    public int force(int u, int g, int day) {
        if (!isUnion(u) || !isGrade(g) || !isDay(day)) {
            return finding(BEYOND);
        }
        int r = books.rules.inForce(u, g, day);
        return r < 0 ? finding(NONE) : r;
    }

    // ---- cards

    public int has(int p, int u, int day, int known) {
        if (!books.persons.holds(p) || !isUnion(u) || !isDay(day) || !isDay(known)) {
            return finding(BEYOND);
        }
        books.cards.know(known);
        return books.cards.heldOn(p, u, day);
    }

    public int why(int p, int u, int g, int day) {
        if (!isAsked(p, u, g, day)) {
            return finding(BEYOND);
        }
        books.cards.know(day);
        return books.whyNot(p, u, g, day);
    }

    public int panel(int p, int u, int g, int day, int panel) {
        if (!isAsked(p, u, g, day) || !books.persons.areAll(panel)) {
            return finding(BEYOND);
        }
        int r = books.rules.inForce(u, g, day);
        if (r < 0) {
            return finding(NONE);
        }
        books.cards.know(day);
        return books.whyNoPanel(p, u, day, panel, books.rules.needed[r]);
    }

    public int give(int p, int u, int g, int day, int panel) {
        if (!isAsked(p, u, g, day) || !books.persons.areAll(panel) || day < books.cards.latestDay()) {
            return finding(BEYOND);
        }
        books.cards.know(day);
        int r = books.rules.inForce(u, g, day);
        if (r < 0 || books.whyNot(p, u, g, day) != 0
                || books.whyNoPanel(p, u, day, panel, books.rules.needed[r]) != 0) {
            return finding(STATE);
        }
        if (books.cards.size >= MOST_ENTRIES) {
            return finding(FULL);
        }
        return books.cards.add(p, u, g, day, panel);
    }

    public int entry(int e, int what) {
        if (!books.cards.holds(e)) {
            return finding(BEYOND);
        }
        switch (what) {
            case 0:
                return books.cards.owner[e];
            case 1:
                return books.cards.union[e];
            case 2:
                return books.cards.grade[e];
            case 3:
                return books.cards.date[e];
            case 4:
                return books.cards.judges[e];
            default:
                return finding(BEYOND);
        }
    }

    public int stands(int e, int known) {
        if (!books.cards.holds(e) || !isDay(known)) {
            return finding(BEYOND);
        }
        books.cards.know(known);
        return books.cards.standing[e] ? 1 : 0;
    }

    public int strike(int p, int from, int told) {
        if (!books.persons.holds(p) || !isDay(from) || !isDay(told)) {
            return finding(BEYOND);
        }
        if (!books.persons.isExaminer(p)) {
            return finding(KIND);
        }
        if (books.cards.strikes.size >= MOST_STRIKES) {
            return finding(FULL);
        }
        // A strike never lifts an entry up again, so the difference is what fell.
        int before = books.cards.standingAtLast();
        books.cards.strikes.add(p, from, told);
        return before - books.cards.standingAtLast();
    }

    public int unstrike() {
        if (books.cards.strikes.size <= 0) {
            return finding(NONE);
        }
        books.cards.strikes.size--;
        return books.cards.strikes.size;
    }

    // ---- a day

    public int wait(int p) {
        if (!books.persons.holds(p)) {
            return finding(BEYOND);
        }
        if (candidates.holds(p)) {
            return finding(STATE);
        }
        if (candidates.size >= MOST_CANDIDATES) {
            return finding(FULL);
        }
        candidates.add(p);
        return candidates.size;
    }

    public int go() {
        int waited = candidates.size;
        candidates.clear();
        return waited;
    }

    public int best(int u, int day, int load) {
        if (!isUnion(u) || !isDay(day) || !isWithin(load, 1, MOST_LOAD)) {
            return finding(BEYOND);
        }
        books.cards.know(day);
        return candidates.seat(books, u, day, load);
    }

    public int given(int i) {
        if (!isWithin(i, 0, candidates.size - 1)) {
            return finding(BEYOND);
        }
        if (!candidates.areSeated) {
            return finding(STATE);
        }
        return candidates.chosen[i];
    }

    // ---- marks

    public int exam() {
        if (exams.size >= MOST_EXAMS) {
            return finding(FULL);
        }
        return exams.add();
    }

    public int mark(int exam, int p, int mark) {
        if (!exams.holds(exam) || !books.persons.holds(p) || !isWithin(mark, 0, MOST_MARK)) {
            return finding(BEYOND);
        }
        if (!books.persons.isExaminer(p)) {
            return finding(KIND);
        }
        int place = exams.placeFor(exam, p);
        if (place >= MARKS) {
            return finding(FULL);
        }
        return exams.put(exam, place, p, mark);
    }

    public int middle(int exam) {
        if (!exams.holds(exam)) {
            return finding(BEYOND);
        }
        if (!exams.isWhole(exam)) {
            return finding(STATE);
        }
        return exams.middleOf(exam);
    }

    public int apart(int exam, int bound) {
        if (!exams.holds(exam) || !isWithin(bound, 0, MOST_MARK)) {
            return finding(BEYOND);
        }
        if (!exams.isWhole(exam)) {
            return finding(STATE);
        }
        return exams.awayFromMiddle(exam, bound);
    }

    public int hard(int p) {
        if (!books.persons.holds(p)) {
            return finding(BEYOND);
        }
        if (!books.persons.isExaminer(p)) {
            return finding(KIND);
        }
        return exams.hardness(p);
    }

    // ---- what is told

    public int tell(int v) {
        if (numberCount >= MOST_TOLD) {
            return finding(FULL);
        }
        numbers[numberCount] = v;
        numberCount++;
        return numberCount;
    }

    public int check(int known) {
        int waited = numberCount;
        numberCount = 0;
        if (!isDay(known)) {
            return finding(BEYOND);
        }
        books.cards.know(known);
        int at = 0;
        for (int e = 0; e < books.cards.size; e++) {
            if (books.cards.standing[e]) {
                if (at >= waited || numbers[at] != e) {
                    return 1 + at;
                }
                at++;
            }
        }
        return at < waited ? TOO_MANY_TOLD : 0;
    }

    public int count(int what) {
        switch (what) {
            case 0:
                return books.persons.size;
            case 1:
                return books.rules.size;
            case 2:
                return books.cards.size;
            case 3:
                return books.cards.strikes.size;
            case 4:
                return exams.size;
            case 5:
                return candidates.size;
            case 6:
                return numberCount;
            default:
                return finding(BEYOND);
        }
    }

    public int found(int k) {
        if (!isWithin(k, 1, FINDINGS)) {
            return finding(BEYOND);
        }
        return findings[k];
    }

    private int finding(int answer) {
        int k = LOW - answer;
        if (isWithin(k, 1, FINDINGS)) {
            findings[k]++;
        }
        return answer;
    }

    private boolean isAsked(int p, int u, int g, int day) {
        return books.persons.holds(p) && isUnion(u) && isGrade(g) && isDay(day);
    }

    private static boolean isWithin(int n, int least, int most) {
        return n >= least && n <= most;
    }

    private static boolean isDay(int day) {
        return isWithin(day, 0, LAST_DAY);
    }

    private static boolean isUnion(int u) {
        return isWithin(u, 0, UNIONS - 1);
    }

    private static boolean isGrade(int g) {
        return isWithin(g, 1, GRADES);
    }

    private static boolean isKind(int kind) {
        return isWithin(kind, PUPIL, CHILD);
    }

    /** Who is known to the hall. */
    private static final class Persons {
        final int[] kind = new int[MOST_PERSONS];
        final int[] born = new int[MOST_PERSONS];
        final int[] home = new int[MOST_PERSONS];
        final int[] licensed = new int[MOST_PERSONS];
        final int[] passed = new int[MOST_PERSONS * PARTS];
        int size;
        int examiners;

        boolean holds(int p) {
            return p >= 0 && p < size;
        }

        boolean areAll(int bits) {
            return bits >>> size == 0;
        }

        boolean isExaminer(int p) {
            return kind[p] == EXAMINER;
        }

        boolean hasRoomFor(int newKind) {
            return size < MOST_PERSONS && (newKind != EXAMINER || examiners < MOST_EXAMINERS);
        }

        int add(int newKind, int day, int hall) {
            int p = size;
            kind[p] = newKind;
            born[p] = day;
            home[p] = hall;
            licensed[p] = LAST_DAY;
            for (int i = 0; i < PARTS; i++) {
                passed[p * PARTS + i] = -1;
            }
            if (newKind == EXAMINER) {
                examiners++;
            }
            size++;
            return p;
        }

        /** Whether all these parts were passed on one of these days. */
        boolean passedAll(int p, int parts, int from, int to) {
            for (int i = 0; i < PARTS; i++) {
                int day = passed[p * PARTS + i];
                if ((parts >> i & 1) != 0 && (day < from || day > to)) {
                    return false;
                }
            }
            return true;
        }
    }

    /** The rules, in the order in which they were told. */
    private static final class Rules {
        final int[] subject = new int[MOST_RULES];
        final int[] start = new int[MOST_RULES];
        final int[] daysSince = new int[MOST_RULES];
        final int[] leastAge = new int[MOST_RULES];
        final int[] parts = new int[MOST_RULES];
        final int[] needed = new int[MOST_RULES];
        int size;

        void add(int first, int from, int days, int age, int panel) {
            subject[size] = first;
            start[size] = from;
            daysSince[size] = days;
            leastAge[size] = age;
            parts[size] = panel >> 4;
            needed[size] = panel & 15;
            size++;
        }

        /** The number of the rule in force, or -1. */
        int inForce(int u, int g, int day) {
            int latest = -1;
            for (int r = 0; r < size; r++) {
                if (subject[r] == 100 * u + g && start[r] <= day
                        && (latest < 0 || start[r] >= start[latest])) {
                    latest = r;
                }
            }
            return latest;
        }
    }

    /** The strikes, in the order in which they came. */
    private static final class Strikes {
        final int[] struck = new int[MOST_STRIKES];
        final int[] start = new int[MOST_STRIKES];
        final int[] toldOn = new int[MOST_STRIKES];
        int size;

        void add(int p, int from, int day) {
            struck[size] = p;
            start[size] = from;
            toldOn[size] = day;
            size++;
        }

        /** Whether one of these persons is struck on a day, as known by another. */
        boolean hit(int bits, int day, int known) {
            for (int s = 0; s < size; s++) {
                if ((bits >> struck[s] & 1) != 0 && start[s] <= day && toldOn[s] <= known) {
                    return true;
                }
            }
            return false;
        }
    }

    /** The entries, and what decides which of them stand. */
    private static final class Cards {
        final Strikes strikes = new Strikes();
        final int[] ways = new int[UNIONS];
        final int[] values = new int[UNIONS * UNIONS * (GRADES + 1)];
        final int[] owner = new int[MOST_ENTRIES];
        final int[] union = new int[MOST_ENTRIES];
        final int[] grade = new int[MOST_ENTRIES];
        final int[] date = new int[MOST_ENTRIES];
        final int[] judges = new int[MOST_ENTRIES];
        /** Filled by know(), which every call that reads it asks first. */
        final boolean[] standing = new boolean[MOST_ENTRIES];
        /** Used by know() alone: what each person has in each union so far. */
        final int[] soFar = new int[MOST_PERSONS * UNIONS];
        int size;

        Cards() {
            for (int u = 0; u < UNIONS; u++) {
                for (int g = 1; g <= GRADES; g++) {
                    values[(u * UNIONS + u) * (GRADES + 1) + g] = g;
                }
            }
        }

        boolean holds(int e) {
            return e >= 0 && e < size;
        }

        int latestDay() {
            return size > 0 ? date[size - 1] : 0;
        }

        int value(int u, int v, int g) {
            return values[(u * UNIONS + v) * (GRADES + 1) + g];
        }

        void setValue(int u, int v, int g, int what) {
            values[(u * UNIONS + v) * (GRADES + 1) + g] = what;
        }

        int add(int p, int u, int g, int day, int panel) {
            int e = size;
            owner[e] = p;
            union[e] = u;
            grade[e] = g;
            date[e] = day;
            judges[e] = panel;
            size++;
            return e;
        }

        /** Finds which entries stand as known by a day. */
        void know(int known) {
            Arrays.fill(soFar, 0);
            for (int e = 0; e < size; e++) {
                int reached = soFar[owner[e] * UNIONS + union[e]];
                standing[e] = reached >= grade[e] - 1 && !falls(e, known);
                if (standing[e]) {
                    raise(e);
                }
            }
        }

        private boolean falls(int e, int known) {
            return ways[union[e]] == 1 && strikes.hit(judges[e], date[e], known);
        }

        private void raise(int e) {
            for (int u = 0; u < UNIONS; u++) {
                int place = owner[e] * UNIONS + u;
                soFar[place] = Math.max(soFar[place], value(u, union[e], grade[e]));
            }
        }

        int standingAtLast() {
            know(LAST_DAY);
            int n = 0;
            for (int e = 0; e < size; e++) {
                if (standing[e]) {
                    n++;
                }
            }
            return n;
        }

        private boolean counts(int e, int p, int day) {
            return owner[e] == p && date[e] <= day && standing[e];
        }

        /** What a person has in a union on a day, as known by the day of know(). */
        int heldOn(int p, int u, int day) {
            int most = 0;
            for (int e = 0; e < size; e++) {
                if (counts(e, p, day)) {
                    most = Math.max(most, value(u, union[e], grade[e]));
                }
            }
            return most;
        }

        /** The day of a person's latest standing entry up to a day, or -1. */
        int lastGraded(int p, int day) {
            int last = -1;
            for (int e = 0; e < size; e++) {
                if (counts(e, p, day)) {
                    last = date[e];
                }
            }
            return last;
        }
    }

    /** Who may be graded and by whom; the cards are known by the day that is asked. */
    private static final class Books {
        final Persons persons = new Persons();
        final Rules rules = new Rules();
        final Cards cards = new Cards();

        int whyNot(int p, int u, int g, int day) {
            int r = rules.inForce(u, g, day);
            boolean isChild = persons.kind[p] == CHILD;
            if (r < 0 || isChild && g > CHILD_GRADES) {
                return 1;
            }
            if (cards.heldOn(p, u, day) != g - 1) {
                return 2;
            }
            if (persons.licensed[p] < day) {
                return 3;
            }
            if (day - persons.born[p] < rules.leastAge[r]) {
                return 4;
            }
            int last = cards.lastGraded(p, day);
            int least = isChild ? rules.daysSince[r] / 2 : rules.daysSince[r];
            if (last >= 0 && day - last < least) {
                return 5;
            }
            return persons.passedAll(p, rules.parts[r], Math.max(last, 0), day) ? 0 : 6;
        }

        int whyNoPanel(int p, int u, int day, int panel, int needed) {
            if (Integer.bitCount(panel) != PANEL_SIZE) {
                return 1;
            }
            // The first reason of all is the least of what each one's first reason is.
            int first = 0;
            for (int x = 0; x < persons.size; x++) {
                if ((panel >> x & 1) != 0) {
                    int reason = whyNoJudge(p, u, day, x, needed);
                    if (reason != 0 && (first == 0 || reason < first)) {
                        first = reason;
                    }
                }
            }
            return first;
        }

        int whyNoJudge(int p, int u, int day, int x, int needed) {
            if (!persons.isExaminer(x)) {
                return 2;
            }
            if (x == p || persons.home[x] == persons.home[p]) {
                return 3;
            }
            if (persons.licensed[x] < day) {
                return 4;
            }
            if (cards.strikes.hit(1 << x, day, day)) {
                return 5;
            }
            return cards.heldOn(x, u, day) < needed ? 6 : 0;
        }
    }

    /** Who waits to be graded, and the panels found for them. */
    private static final class Candidates {
        final int[] waiting = new int[MOST_CANDIDATES];
        final int[] options = new int[MOST_CANDIDATES * MOST_PANELS];
        final int[] optionCount = new int[MOST_CANDIDATES];
        final int[] chosen = new int[MOST_CANDIDATES];
        final int[] judges = new int[MOST_EXAMINERS];
        int size;
        boolean areSeated;

        boolean holds(int p) {
            for (int i = 0; i < size; i++) {
                if (waiting[i] == p) {
                    return true;
                }
            }
            return false;
        }

        void add(int p) {
            waiting[size] = p;
            size++;
            areSeated = false;
        }

        void clear() {
            size = 0;
            areSeated = false;
        }

        /** Chooses the best panels: how many candidates have one. */
        int seat(Books books, int u, int day, int load) {
            for (int i = 0; i < size; i++) {
                listOptions(books, i, u, day);
            }
            areSeated = true;
            int graded = size;
            while (graded > 0 && !place(0, graded, load)) {
                graded--;
            }
            if (graded == 0) {
                Arrays.fill(chosen, 0);
            }
            return graded;
        }

        private void listOptions(Books books, int i, int u, int day) {
            optionCount[i] = 0;
            int p = waiting[i];
            int g = books.cards.heldOn(p, u, day) + 1;
            int r = books.rules.inForce(u, g, day);
            if (r < 0 || books.whyNot(p, u, g, day) != 0) {
                return;
            }
            int fit = 0;
            for (int x = 0; x < books.persons.size; x++) {
                if (fit < MOST_EXAMINERS && books.whyNoJudge(p, u, day, x, books.rules.needed[r]) == 0) {
                    judges[fit] = x;
                    fit++;
                }
            }
            listPanels(i, fit);
        }

        /** The greatest judge goes outermost, so that the panels come in order of their bits. */
        private void listPanels(int i, int fit) {
            for (int c = 2; c < fit; c++) {
                for (int b = 1; b < c; b++) {
                    for (int a = 0; a < b; a++) {
                        int panel = 1 << judges[a] | 1 << judges[b] | 1 << judges[c];
                        options[i * MOST_PANELS + optionCount[i]] = panel;
                        optionCount[i]++;
                    }
                }
            }
        }

        /**
         * Seats candidates from one on so that at least so many more have a panel. Panels are
         * tried from the least on and none last, so the first way that is found is the one due.
         */
        private boolean place(int at, int need, int load) {
            if (need > ableFrom(at)) {
                return false;
            }
            if (at >= size) {
                return true;
            }
            int full = fullAhead(at, load);
            for (int i = 0; i < optionCount[at]; i++) {
                int panel = options[at * MOST_PANELS + i];
                if ((panel & full) == 0) {
                    chosen[at] = panel;
                    if (place(at + 1, need - 1, load)) {
                        return true;
                    }
                }
            }
            chosen[at] = 0;
            return place(at + 1, need, load);
        }

        private int ableFrom(int at) {
            int able = 0;
            for (int i = at; i < size; i++) {
                if (optionCount[i] > 0) {
                    able++;
                }
            }
            return able;
        }

        /** Who sits in as many panels of the candidates ahead as the load allows. */
        private int fullAhead(int at, int load) {
            int one = 0;
            int two = 0;
            int three = 0;
            for (int i = 0; i < at; i++) {
                three |= two & chosen[i];
                two |= one & chosen[i];
                one |= chosen[i];
            }
            switch (load) {
                case 1:
                    return one;
                case 2:
                    return two;
                case 3:
                    return three;
                default:
                    // Three are ahead at most, so nobody can sit in four.
                    return 0;
            }
        }
    }

    /** The exams with their marks. */
    private static final class Exams {
        final int[] markCount = new int[MOST_EXAMS];
        final int[] marker = new int[MOST_EXAMS * MARKS];
        final int[] marks = new int[MOST_EXAMS * MARKS];
        int size;

        boolean holds(int exam) {
            return exam >= 0 && exam < size;
        }

        int add() {
            int exam = size;
            size++;
            return exam;
        }

        boolean isWhole(int exam) {
            return markCount[exam] == MARKS;
        }

        /** Where an examiner's mark stands, or the first free place. */
        int placeFor(int exam, int p) {
            for (int i = 0; i < markCount[exam]; i++) {
                if (marker[exam * MARKS + i] == p) {
                    return i;
                }
            }
            return markCount[exam];
        }

        int put(int exam, int place, int p, int mark) {
            marker[exam * MARKS + place] = p;
            marks[exam * MARKS + place] = mark;
            markCount[exam] = Math.max(markCount[exam], place + 1);
            return markCount[exam];
        }

        private int upTo(int exam, int bound) {
            int n = 0;
            for (int i = 0; i < MARKS; i++) {
                if (marks[exam * MARKS + i] <= bound) {
                    n++;
                }
            }
            return n;
        }

        /** The least mark that three are not above: the third by size. */
        int middleOf(int exam) {
            int middle = MOST_MARK;
            for (int i = 0; i < MARKS; i++) {
                int mark = marks[exam * MARKS + i];
                if (mark < middle && upTo(exam, mark) >= MIDDLE_RANK) {
                    middle = mark;
                }
            }
            return middle;
        }

        int awayFromMiddle(int exam, int bound) {
            int middle = middleOf(exam);
            int n = 0;
            for (int i = 0; i < MARKS; i++) {
                if (Math.abs(marks[exam * MARKS + i] - middle) > bound) {
                    n++;
                }
            }
            return n;
        }

        int hardness(int p) {
            int sum = 0;
            for (int exam = 0; exam < size; exam++) {
                int place = placeFor(exam, p);
                if (isWhole(exam) && place < MARKS) {
                    sum += marks[exam * MARKS + place] - middleOf(exam);
                }
            }
            return sum;
        }
    }
}

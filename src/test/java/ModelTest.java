import java.util.ArrayList;
import java.util.Arrays;
import java.util.Comparator;
import java.util.List;
import java.util.Random;
import java.util.stream.IntStream;

/**
 * Compares long runs of drawn calls with a model that follows the document's words one by one: entries
 * are asked by recursion whether they stand, and the best panels are sought among all ways there are.
 */
public final class ModelTest {
    private static final Due due = new Due("ModelTest");
    private static final int RUNS = 4000;
    private static final int CALLS = 512;
    private static final int[] ODD = {-1, -2, 0, 1, 30000, 30001, 20, 60, 99, 1 << 19, 1 << 20, 1 << 30,
        Integer.MAX_VALUE, Integer.MIN_VALUE, Integer.MIN_VALUE + 1, -1000001};
    /** How often each call comes among a hundred, in the order of the document's face. */
    private static final int[] OFTEN = {3, 2, 2, 5, 3, 2, 3, 2, 4, 6, 6, 25, 2, 4, 3, 2, 5, 1, 4, 5, 1, 9, 1, 1, 1, 6, 1, 1, 1};

    /** In every fourth run: strikes, exams and numbers come so often that there is no room for more. */
    private static final int[] OFTEN_TO_FILL =
        {4, 1, 1, 3, 2, 2, 4, 1, 3, 4, 4, 25, 1, 3, 9, 1, 4, 1, 4, 4, 8, 12, 1, 1, 2, 9, 1, 1, 1};

    private record Entry(int p, int u, int g, int day, int panel) { }

    private record Rule(int u, int g, int from, int days, int age, int parts, int panel) { }

    private record Strike(int p, int from, int told) { }

    private record Person(int kind, int born, int hall, int[] licence, int[] parts) { }

    private static final class Model {
        final List<Person> persons = new ArrayList<>();
        final List<Rule> rules = new ArrayList<>();
        final List<Entry> entries = new ArrayList<>();
        final List<Strike> strikes = new ArrayList<>();
        final List<Integer> waits = new ArrayList<>();
        final List<int[][]> exams = new ArrayList<>();
        final List<Integer> told = new ArrayList<>();
        final int[][][] worth = new int[3][3][11];
        final int[] way = new int[3];
        final int[] found = new int[6];
        int[] best;

        Model() {
            for (int u = 0; u < 3; u++) {
                for (int g = 1; g <= 10; g++) {
                    worth[u][u][g] = g;
                }
            }
        }

        int ask(int call, int[] a) {
            int answer = answer(call, a);
            if (answer < -1000000) {
                found[-1000000 - answer]++;
            }
            return answer;
        }

        static boolean in(int n, int least, int most) {
            return least <= n && n <= most;
        }

        static boolean day(int d) {
            return in(d, 0, 30000);
        }

        boolean isPerson(int p) {
            return in(p, 0, persons.size() - 1);
        }

        boolean examiner(int p) {
            return persons.get(p).kind == 1;
        }

        int answer(int call, int[] a) {
            switch (call) {
                case 0: {
                    if (!in(a[0], 0, 2) || !day(a[1]) || !in(a[2], 0, 7)) {
                        return Due.BEYOND;
                    }
                    long examiners = persons.stream().filter(q -> q.kind == 1).count();
                    if (persons.size() == 20 || a[0] == 1 && examiners == 6) {
                        return Due.FULL;
                    }
                    int[] parts = new int[8];
                    Arrays.fill(parts, -1);
                    persons.add(new Person(a[0], a[1], a[2], new int[] {30000}, parts));
                    return persons.size() - 1;
                }
                case 1:
                    if (!isPerson(a[0]) || !in(a[1], 0, 2)) {
                        return Due.BEYOND;
                    }
                    return a[1] == 0 || persons.get(a[0]).kind == a[1] ? persons.get(a[0]).hall : Due.KIND;
                case 2: {
                    if (!isPerson(a[0]) || !day(a[1])) {
                        return Due.BEYOND;
                    }
                    int was = persons.get(a[0]).licence[0];
                    persons.get(a[0]).licence[0] = a[1];
                    return was;
                }
                case 3: {
                    if (!isPerson(a[0]) || !in(a[1], 0, 7) || !(day(a[2]) || a[2] == -1)) {
                        return Due.BEYOND;
                    }
                    int was = persons.get(a[0]).parts[a[1]];
                    persons.get(a[0]).parts[a[1]] = a[2];
                    return was;
                }
                case 4: {
                    if (!in(a[0], 0, 2) || !in(a[1], 0, 2) || !in(a[2], 1, 10) || a[0] == a[1] || !in(a[3], 0, 10)) {
                        return Due.BEYOND;
                    }
                    int was = worth[a[0]][a[1]][a[2]];
                    worth[a[0]][a[1]][a[2]] = a[3];
                    return was;
                }
                case 5: {
                    if (!in(a[0], 0, 2) || !in(a[1], 0, 1)) {
                        return Due.BEYOND;
                    }
                    int was = way[a[0]];
                    way[a[0]] = a[1];
                    return was;
                }
                case 6:
                    return rule(a);
                case 7: {
                    if (!in(a[0], 0, 2) || !in(a[1], 1, 10) || !day(a[2])) {
                        return Due.BEYOND;
                    }
                    int r = force(a[0], a[1], a[2]);
                    return r < 0 ? Due.NONE : r;
                }
                case 8:
                    return isPerson(a[0]) && in(a[1], 0, 2) && day(a[2]) && day(a[3]) ? has(a[0], a[1], a[2], a[3]) : Due.BEYOND;
                case 9:
                    return asked(a) ? why(a[0], a[1], a[2], a[3]) : Due.BEYOND;
                case 10:
                    if (!asked(a) || !bits(a[4])) {
                        return Due.BEYOND;
                    }
                    return force(a[1], a[2], a[3]) < 0 ? Due.NONE : panel(a[0], a[1], a[2], a[3], a[4]);
                case 11:
                    return give(a);
                case 12: {
                    if (!in(a[0], 0, entries.size() - 1) || !in(a[1], 0, 4)) {
                        return Due.BEYOND;
                    }
                    Entry e = entries.get(a[0]);
                    return new int[] {e.p, e.u, e.g, e.day, e.panel}[a[1]];
                }
                case 13:
                    return in(a[0], 0, entries.size() - 1) && day(a[1]) ? (stands(a[0], a[1]) ? 1 : 0) : Due.BEYOND;
                case 14:
                    return strike(a);
                case 15:
                    if (strikes.isEmpty()) {
                        return Due.NONE;
                    }
                    strikes.remove(strikes.size() - 1);
                    return strikes.size();
                default:
                    return answerMore(call, a);
            }
        }

        int answerMore(int call, int[] a) {
            switch (call) {
                case 16:
                    if (!isPerson(a[0])) {
                        return Due.BEYOND;
                    }
                    if (waits.contains(a[0])) {
                        return Due.STATE;
                    }
                    if (waits.size() == 4) {
                        return Due.FULL;
                    }
                    waits.add(a[0]);
                    best = null;
                    return waits.size();
                case 17: {
                    int did = waits.size();
                    waits.clear();
                    best = null;
                    return did;
                }
                case 18:
                    return in(a[0], 0, 2) && day(a[1]) && in(a[2], 1, 4) ? best(a[0], a[1], a[2]) : Due.BEYOND;
                case 19:
                    if (!in(a[0], 0, waits.size() - 1)) {
                        return Due.BEYOND;
                    }
                    return best == null ? Due.STATE : best[a[0]];
                case 20:
                    if (exams.size() == 20) {
                        return Due.FULL;
                    }
                    exams.add(new int[0][]);
                    return exams.size() - 1;
                case 21:
                    return mark(a);
                case 22:
                    if (!in(a[0], 0, exams.size() - 1)) {
                        return Due.BEYOND;
                    }
                    return exams.get(a[0]).length < 5 ? Due.STATE : middle(exams.get(a[0]));
                case 23: {
                    if (!in(a[0], 0, exams.size() - 1) || !in(a[1], 0, 100)) {
                        return Due.BEYOND;
                    }
                    int[][] exam = exams.get(a[0]);
                    if (exam.length < 5) {
                        return Due.STATE;
                    }
                    return (int) Arrays.stream(exam).filter(m -> Math.abs(m[1] - middle(exam)) > a[1]).count();
                }
                case 24:
                    if (!isPerson(a[0])) {
                        return Due.BEYOND;
                    }
                    return examiner(a[0]) ? hard(a[0]) : Due.KIND;
                case 25:
                    if (told.size() == 20) {
                        return Due.FULL;
                    }
                    told.add(a[0]);
                    return told.size();
                case 26:
                    return check(a[0]);
                case 27:
                    if (!in(a[0], 0, 6)) {
                        return Due.BEYOND;
                    }
                    return new int[] {persons.size(), rules.size(), entries.size(), strikes.size(), exams.size(),
                        waits.size(), told.size()}[a[0]];
                default:
                    return in(a[0], 1, 5) ? found[a[0]] : Due.BEYOND;
            }
        }

        int rule(int[] a) {
            for (int u = 0; u < 3; u++) {
                for (int g = 1; g <= 10; g++) {
                    if (a[0] == 100 * u + g && day(a[1]) && in(a[2], 0, 4000) && in(a[3], 0, 20000)
                            && in(a[4], 0, 16 * 255 + 10) && a[4] % 16 <= 10) {
                        if (rules.size() == 40) {
                            return Due.FULL;
                        }
                        rules.add(new Rule(u, g, a[1], a[2], a[3], a[4] / 16, a[4] % 16));
                        return rules.size();
                    }
                }
            }
            return Due.BEYOND;
        }

        int force(int u, int g, int day) {
            return IntStream.range(0, rules.size())
                .filter(r -> rules.get(r).u == u && rules.get(r).g == g && rules.get(r).from <= day)
                .boxed()
                .max(Comparator.comparing((Integer r) -> rules.get(r).from).thenComparing(r -> r))
                .orElse(-1);
        }

        boolean struck(int p, int day, int known) {
            return strikes.stream().anyMatch(s -> s.p == p && s.from <= day && s.told <= known);
        }

        boolean stands(int e, int known) {
            Entry it = entries.get(e);
            for (int p = 0; p < 20; p++) {
                if (way[it.u] == 1 && (it.panel >> p & 1) == 1 && struck(p, it.day, known)) {
                    return false;
                }
            }
            if (it.g == 1) {
                return true;
            }
            for (int i = e - 1; i >= 0; i--) {
                Entry other = entries.get(i);
                if (other.p == it.p && worth[it.u][other.u][other.g] >= it.g - 1 && stands(i, known)) {
                    return true;
                }
            }
            return false;
        }

        int has(int p, int u, int day, int known) {
            int most = 0;
            for (int e = 0; e < entries.size(); e++) {
                Entry it = entries.get(e);
                if (it.p == p && it.day <= day && worth[u][it.u][it.g] > most && stands(e, known)) {
                    most = worth[u][it.u][it.g];
                }
            }
            return most;
        }

        boolean asked(int[] a) {
            return isPerson(a[0]) && in(a[1], 0, 2) && in(a[2], 1, 10) && day(a[3]);
        }

        boolean bits(int panel) {
            for (int p = 0; p < 32; p++) {
                if ((panel >>> p & 1) == 1 && !isPerson(p)) {
                    return false;
                }
            }
            return true;
        }

        int why(int p, int u, int g, int day) {
            Person it = persons.get(p);
            int r = force(u, g, day);
            if (r < 0 || it.kind == 2 && g > 4) {
                return 1;
            }
            Rule rule = rules.get(r);
            if (has(p, u, day, day) + 1 != g) {
                return 2;
            }
            if (it.licence[0] < day) {
                return 3;
            }
            if (day - it.born < rule.age) {
                return 4;
            }
            Entry last = null;
            for (int e = 0; e < entries.size(); e++) {
                if (entries.get(e).p == p && entries.get(e).day <= day && stands(e, day)) {
                    last = entries.get(e);
                }
            }
            if (last != null && day - last.day < (it.kind == 2 ? rule.days / 2 : rule.days)) {
                return 5;
            }
            for (int i = 0; i < 8; i++) {
                if ((rule.parts >> i & 1) == 1) {
                    int passed = it.parts[i];
                    if (passed == -1 || passed > day || last != null && passed < last.day) {
                        return 6;
                    }
                }
            }
            return 0;
        }

        int panel(int p, int u, int g, int day, int panel) {
            List<Integer> members = new ArrayList<>();
            for (int x = 0; x < 20; x++) {
                if ((panel >> x & 1) == 1) {
                    members.add(x);
                }
            }
            int need = rules.get(force(u, g, day)).panel;
            if (members.size() != 3) {
                return 1;
            }
            if (members.stream().anyMatch(x -> !examiner(x))) {
                return 2;
            }
            if (members.stream().anyMatch(x -> x == p || persons.get(x).hall == persons.get(p).hall)) {
                return 3;
            }
            if (members.stream().anyMatch(x -> persons.get(x).licence[0] < day)) {
                return 4;
            }
            if (members.stream().anyMatch(x -> struck(x, day, day))) {
                return 5;
            }
            return members.stream().anyMatch(x -> has(x, u, day, day) < need) ? 6 : 0;
        }

        int give(int[] a) {
            if (!asked(a) || !bits(a[4]) || !entries.isEmpty() && a[3] < entries.get(entries.size() - 1).day) {
                return Due.BEYOND;
            }
            if (why(a[0], a[1], a[2], a[3]) != 0 || panel(a[0], a[1], a[2], a[3], a[4]) != 0) {
                return Due.STATE;
            }
            if (entries.size() == 60) {
                return Due.FULL;
            }
            entries.add(new Entry(a[0], a[1], a[2], a[3], a[4]));
            return entries.size() - 1;
        }

        int strike(int[] a) {
            if (!isPerson(a[0]) || !day(a[1]) || !day(a[2])) {
                return Due.BEYOND;
            }
            if (!examiner(a[0])) {
                return Due.KIND;
            }
            if (strikes.size() == 20) {
                return Due.FULL;
            }
            boolean[] stood = new boolean[entries.size()];
            for (int e = 0; e < stood.length; e++) {
                stood[e] = stands(e, 30000);
            }
            strikes.add(new Strike(a[0], a[1], a[2]));
            int fell = 0;
            for (int e = 0; e < stood.length; e++) {
                if (stood[e] && !stands(e, 30000)) {
                    fell++;
                }
            }
            return fell;
        }

        /** Goes through all ways: each candidate with each panel that may, or with none. */
        int best(int u, int day, int load) {
            int n = waits.size();
            int[][] may = new int[n][];
            for (int i = 0; i < n; i++) {
                int p = waits.get(i);
                int g = has(p, u, day, day) + 1;
                List<Integer> panels = new ArrayList<>();
                panels.add(Integer.MAX_VALUE);
                if (g <= 10 && why(p, u, g, day) == 0) {
                    for (int bits : threes()) {
                        if (panel(p, u, g, day, bits) == 0) {
                            panels.add(bits);
                        }
                    }
                }
                may[i] = panels.stream().mapToInt(Integer::intValue).toArray();
            }
            int[] at = new int[n];
            int[] top = null;
            int topCount = -1;
            while (true) {
                int[] way = new int[n];
                int graded = 0;
                for (int i = 0; i < n; i++) {
                    way[i] = may[i][at[i]];
                    graded += way[i] == Integer.MAX_VALUE ? 0 : 1;
                }
                if (graded >= topCount && fits(way, load)
                        && (graded > topCount || Arrays.compare(way, top) < 0)) {
                    top = way;
                    topCount = graded;
                }
                int i = 0;
                while (i < n && ++at[i] == may[i].length) {
                    at[i++] = 0;
                }
                if (i == n) {
                    break;
                }
            }
            best = Arrays.stream(top).map(w -> w == Integer.MAX_VALUE ? 0 : w).toArray();
            return topCount;
        }

        List<Integer> threes() {
            List<Integer> all = new ArrayList<>();
            for (int x = 0; x < persons.size(); x++) {
                for (int y = 0; y < x; y++) {
                    for (int z = 0; z < y; z++) {
                        if (examiner(x) && examiner(y) && examiner(z)) {
                            all.add(1 << x | 1 << y | 1 << z);
                        }
                    }
                }
            }
            return all;
        }

        static boolean fits(int[] way, int load) {
            for (int p = 0; p < 20; p++) {
                int seats = 0;
                for (int panel : way) {
                    seats += panel == Integer.MAX_VALUE ? 0 : panel >> p & 1;
                }
                if (seats > load) {
                    return false;
                }
            }
            return true;
        }

        int mark(int[] a) {
            if (!in(a[0], 0, exams.size() - 1) || !isPerson(a[1]) || !in(a[2], 0, 100)) {
                return Due.BEYOND;
            }
            if (!examiner(a[1])) {
                return Due.KIND;
            }
            int[][] exam = exams.get(a[0]);
            for (int[] m : exam) {
                if (m[0] == a[1]) {
                    m[1] = a[2];
                    return exam.length;
                }
            }
            if (exam.length == 5) {
                return Due.FULL;
            }
            exam = Arrays.copyOf(exam, exam.length + 1);
            exam[exam.length - 1] = new int[] {a[1], a[2]};
            exams.set(a[0], exam);
            return exam.length;
        }

        static int middle(int[][] exam) {
            return Arrays.stream(exam).mapToInt(m -> m[1]).sorted().toArray()[2];
        }

        int hard(int p) {
            int sum = 0;
            for (int[][] exam : exams) {
                for (int[] m : exam) {
                    if (exam.length == 5 && m[0] == p) {
                        sum += m[1] - middle(exam);
                    }
                }
            }
            return sum;
        }

        int check(int known) {
            List<Integer> said = new ArrayList<>(told);
            told.clear();
            if (!day(known)) {
                return Due.BEYOND;
            }
            List<Integer> standing = new ArrayList<>();
            for (int e = 0; e < entries.size(); e++) {
                if (stands(e, known)) {
                    standing.add(e);
                }
            }
            for (int i = 0; i < standing.size(); i++) {
                if (i >= said.size() || !said.get(i).equals(standing.get(i))) {
                    return 1 + i;
                }
            }
            return said.size() > standing.size() ? 99 : 0;
        }
    }

    /** Draws calls so that the hall fills, its days go on, and many acts succeed. */
    private static final class Drawer {
        final Random random;
        final Model model;
        final int span;
        final int halls;
        final int strictness;
        /** Days are drawn from both ends alone, and rows are filled. */
        final boolean isAtTheEnds;
        int today;

        Drawer(long seed, Model model) {
            this.random = new Random(seed);
            this.model = model;
            this.span = 1 + random.nextInt(40);
            this.halls = 2 + random.nextInt(6);
            this.strictness = 1 + random.nextInt(12);
            this.isAtTheEnds = seed % 4 == 3;
            this.today = isAtTheEnds ? upTo(2) : upTo(9) == 0 ? 30000 - upTo(10 * span) : upTo(2) * upTo(2000);
        }

        int upTo(int n) {
            return random.nextInt(n + 1);
        }

        boolean once(int in) {
            return random.nextInt(in) == 0;
        }

        int day() {
            if (once(3)) {
                return today;
            }
            if (isAtTheEnds) {
                return once(2) ? upTo(2) : 30000 - upTo(2);
            }
            return Math.max(0, Math.min(30000, today + upTo(4 * span) - 2 * span));
        }

        int person() {
            return upTo(Math.max(0, model.persons.size() - 1));
        }

        int examiner() {
            int[] all = IntStream.range(0, model.persons.size()).filter(model::examiner).toArray();
            return all.length == 0 ? person() : all[upTo(all.length - 1)];
        }

        /** Most often three examiners of other halls than the person's. */
        int panel(int p) {
            int bits = 0;
            for (int i = 0; i < 60 && Integer.bitCount(bits) < 3; i++) {
                int x = examiner();
                boolean ownHall = model.isPerson(p) && model.isPerson(x)
                    && model.persons.get(x).hall == model.persons.get(p).hall;
                if (!ownHall || once(30)) {
                    bits |= 1 << x;
                }
            }
            return once(20) ? bits ^ 1 << person() : bits;
        }

        int grade(int p, int u) {
            if (once(10) || !model.isPerson(p)) {
                return 1 + upTo(9);
            }
            return model.has(p, u, today, today) + 1;
        }

        int[] strictRule(int u, int g) {
            return new int[] {100 * u + g, once(2) ? 0 : day(), once(strictness) ? upTo(span) : 0,
                once(2 * strictness) ? upTo(Math.min(20000, 2 * today)) : 0,
                16 * (once(strictness) ? 1 << upTo(7) | 1 << upTo(7) : 0) + (once(strictness) ? upTo(2) : 0)};
        }

        /** The first calls bring a hall and its rules. */
        int call(int i) {
            if (i < 10) {
                return 0;
            }
            if (i < 34) {
                return 6;
            }
            int[] often = isAtTheEnds ? OFTEN_TO_FILL : OFTEN;
            int n = random.nextInt(Arrays.stream(often).sum());
            int call = 0;
            while (n >= often[call]) {
                n -= often[call++];
            }
            return call;
        }

        int[] arguments(int i, int call) {
            int[] a = plain(i, call);
            if (once(30)) {
                a[upTo(a.length - 1)] = ODD[upTo(ODD.length - 1)];
            }
            return a;
        }

        private int[] plain(int i, int call) {
            int p = person();
            int u = upTo(2);
            return switch (call) {
                case 0 -> new int[] {once(2) ? 1 : upTo(2), once(10) ? day() : 0, upTo(halls - 1)};
                case 1 -> new int[] {p, upTo(2)};
                case 2 -> new int[] {p, once(4) ? day() : 30000};
                case 3 -> new int[] {p, upTo(7), once(6) ? -1 : day()};
                case 4 -> new int[] {u, (u + 1 + upTo(1)) % 3, 1 + upTo(5), once(9) ? 7 + upTo(3) : upTo(6)};
                case 5 -> new int[] {u, upTo(1)};
                case 6 -> i < 34 ? strictRule(i % 3, 1 + (i - 10) / 3) : strictRule(u, 1 + upTo(9));
                case 7 -> new int[] {u, 1 + upTo(6), day()};
                case 8 -> new int[] {p, u, day(), day()};
                case 9 -> new int[] {p, u, grade(p, u), day()};
                case 10 -> new int[] {p, u, grade(p, u), day(), panel(p)};
                case 11 -> new int[] {p, u, grade(p, u), today, panel(p)};
                case 12 -> new int[] {upTo(model.entries.size()), upTo(4)};
                case 13 -> new int[] {upTo(model.entries.size()), day()};
                case 14 -> new int[] {once(9) ? p : examiner(), day(), once(4) ? day() : 30000};
                case 18 -> new int[] {u, day(), 1 + upTo(3)};
                case 19 -> new int[] {upTo(3)};
                case 21 -> new int[] {upTo(model.exams.size()), once(20) ? p : examiner(), upTo(100)};
                case 22 -> new int[] {upTo(model.exams.size())};
                case 23 -> new int[] {upTo(model.exams.size()), upTo(100)};
                case 25 -> new int[] {once(20) ? upTo(60) : nextTold()};
                case 26 -> new int[] {once(2) ? today : day()};
                case 27 -> new int[] {upTo(6)};
                case 28 -> new int[] {1 + upTo(4)};
                default -> new int[] {p};
            };
        }

        /** The entry that stands after the last that was told, as known today. */
        private int nextTold() {
            int last = model.told.isEmpty() ? -1 : model.told.get(model.told.size() - 1);
            for (int e = Math.max(0, last + 1); e < model.entries.size(); e++) {
                if (model.stands(e, today)) {
                    return e;
                }
            }
            return model.entries.size();
        }

        void nextDay() {
            if (once(6)) {
                today = Math.min(30000, today + (isAtTheEnds ? once(30) ? 30000 : upTo(1) : upTo(span)));
            }
        }
    }

    /** How often each call gave which answers, so that a drawer that reaches too little is seen. */
    private static final int[][] seen = new int[29][7];

    private static void note(int call, int answer) {
        int kind = answer < -1000000 ? -1000000 - answer : answer == 0 ? 0 : 6;
        seen[call][kind]++;
    }

    private static boolean run(long seed) {
        Model model = new Model();
        Drawer drawer = new Drawer(seed, model);
        BeltHall x = new BeltHall();
        for (int i = 0; i < CALLS; i++) {
            int call = drawer.call(i);
            int[] a = drawer.arguments(i, call);
            int got = Face.ask(x, Face.CALLS[call], a);
            int want = model.ask(call, a);
            note(call, want);
            due.is("run " + seed + ", call " + i + " (" + Face.written(Face.CALLS[call], a) + ")", got, want);
            if (got != want) {
                return false;
            }
            drawer.nextDay();
        }
        return true;
    }

    public static void main(String[] args) {
        int failed = 0;
        for (long seed = 0; seed < RUNS && failed < 5; seed++) {
            failed += run(seed) ? 0 : 1;
        }
        if (args.length > 0) {
            for (int call = 0; call < seen.length; call++) {
                System.out.println(call + ": " + Arrays.toString(seen[call]));
            }
        }
        due.end();
    }
}

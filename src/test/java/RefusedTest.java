import java.util.ArrayList;
import java.util.List;

/**
 * A call that answers a finding changes nothing but what found() tells. Each refused call is made on one
 * of two halls that were built alike; then both are asked everything, and must answer alike. Acts that
 * answer what was are asked as well, and acts that take something more. check() is the one exception: the
 * numbers that wait are gone behind it, so it is compared with a hall whose numbers a good check() took.
 */
public final class RefusedTest {
    private static final Due due = new Due("RefusedTest");
    /** An object is used for 512 calls; the full hall takes 286, a refused call 1, and the findings 5. */
    private static final int CHUNK = 210;
    private static final int MIN = Integer.MIN_VALUE;
    private static final int MAX = Integer.MAX_VALUE;

    private enum Hall { NEW, BUSY, FULL }

    private record Call(String name, int... a) {
        int on(BeltHall x) {
            return Face.ask(x, name, a);
        }

        String written() {
            return Face.written(name, a);
        }
    }

    private static final List<List<Call>> probes = new ArrayList<>();
    /** What a hall that nothing was refused in answers to each of the probes, and to found() ahead of them. */
    private static int[][] answers;
    private static int[][] answersBehindCheck;
    private static Hall hall;

    public static void main(String[] args) {
        addProbes();
        hallsAreAsTold();
        in(Hall.NEW);
        refusedByANewOne();
        in(Hall.BUSY);
        refusedByABusyOne();
        in(Hall.FULL);
        refusedByAFullOne();
        due.end();
    }

    /** The busy hall has what its comment says, so that there is something to be changed. */
    private static void hallsAreAsTold() {
        BeltHall x = Halls.busy();
        for (int k = 1; k <= 5; k++) {
            due.is("busy, found(" + k + ")", x.found(k), 0);
        }
        int[] counts = {9, 10, 4, 2, 3, 3, 3};
        for (int what = 0; what < counts.length; what++) {
            due.is("busy, count(" + what + ")", x.count(what), counts[what]);
        }
        due.is("busy, the numbers that wait", x.check(1500), 0);
        due.is("busy, the last entry fell", x.stands(3, 1500), 0);
        due.is("busy, the last entry stood", x.stands(3, 1499), 1);
        int[] panels = {14, 28, 50};
        for (int i = 0; i < panels.length; i++) {
            due.is("busy, given(" + i + ")", x.given(i), panels[i]);
        }
        due.is("busy, the middle", x.middle(0), 61);
    }

    private static BeltHall build() {
        return switch (hall) {
            case NEW -> new BeltHall();
            case BUSY -> Halls.busy();
            case FULL -> Halls.full();
        };
    }

    private static void in(Hall which) {
        hall = which;
        answers = new int[probes.size()][];
        answersBehindCheck = new int[probes.size()][];
        for (int i = 0; i < probes.size(); i++) {
            answers[i] = answersTo(build(), probes.get(i));
            BeltHall x = build();
            x.check(0);
            answersBehindCheck[i] = answersTo(x, probes.get(i));
        }
    }

    /** The five findings first, then the probes. */
    private static int[] answersTo(BeltHall x, List<Call> chunk) {
        int[] all = new int[5 + chunk.size()];
        for (int k = 1; k <= 5; k++) {
            all[k - 1] = x.found(k);
        }
        for (int i = 0; i < chunk.size(); i++) {
            all[5 + i] = chunk.get(i).on(x);
        }
        return all;
    }

    private static void refused(int finding, String name, int... a) {
        Call call = new Call(name, a);
        String written = hall + ", " + call.written();
        for (int i = 0; i < probes.size(); i++) {
            BeltHall x = build();
            due.is(written, call.on(x), finding);
            int[] got = answersTo(x, probes.get(i));
            int[] want = (name.equals("check") ? answersBehindCheck : answers)[i];
            for (int k = 1; k <= 5; k++) {
                due.is(written + ", then found(" + k + ")", got[k - 1], want[k - 1] + (finding == -1000000 - k ? 1 : 0));
            }
            for (int j = 5; j < got.length; j++) {
                due.is(written + ", then " + probes.get(i).get(j - 5).written(), got[j], want[j]);
            }
        }
    }

    private static void beyond(String name, int... a) {
        refused(Due.BEYOND, name, a);
    }

    private static void probe(String name, int... a) {
        if (probes.isEmpty() || probes.get(probes.size() - 1).size() == CHUNK) {
            probes.add(new ArrayList<>());
        }
        probes.get(probes.size() - 1).add(new Call(name, a));
    }

    /** What comes behind an act of the same chunk is asked of the changed hall: of both alike. */
    private static void addProbes() {
        for (int what = 0; what <= 6; what++) {
            probe("count", what);
        }
        for (int i = 0; i < 4; i++) {
            probe("given", i);
        }
        addProbesOfPersons();
        addProbesOfCards();
        addProbesOfMarks();
        probes.add(new ArrayList<>());
        addProbesThatChange();
        probes.add(new ArrayList<>());
        addProbesThatTakeMore();
        probes.add(new ArrayList<>());
        probe("check", 0);
        probe("check", 30000);
        probes.add(new ArrayList<>());
        probe("tell", 3);
        probe("check", 1000);
        probes.add(new ArrayList<>());
        probe("wait", 5);
        probe("given", 0);
        probe("best", 0, 1100, 3);
        for (int i = 0; i < 4; i++) {
            probe("given", i);
        }
        probe("go");
        probe("wait", 1);
        probe("given", 0);
    }

    private static void addProbesOfPersons() {
        for (int p = 0; p < 20; p++) {
            for (int kind = 0; kind < 3; kind++) {
                probe("as", p, kind);
            }
            probe("hard", p);
        }
        int[] days = {0, 9, 10, 20000, 30000};
        for (int day : days) {
            for (int u = 0; u < 3; u++) {
                for (int g = 1; g <= 10; g++) {
                    probe("force", u, g, day);
                }
            }
        }
    }

    private static void addProbesOfCards() {
        int[] days = {0, 40, 1000, 1100, 2001, 30000};
        int[] panels = {0, 7, 14, 28, 56, 112};
        for (int p = 0; p < 20; p++) {
            for (int u = 0; u < 2; u++) {
                for (int day : days) {
                    probe("has", p, u, day, day);
                    probe("why", p, u, 1, day);
                    probe("why", p, u, 2, day);
                }
            }
            for (int bits : panels) {
                probe("panel", p, 0, 1, 1100, bits);
            }
        }
        for (int e = 0; e < 60; e++) {
            for (int what = 0; what < 5; what++) {
                probe("entry", e, what);
            }
            probe("stands", e, 99);
            probe("stands", e, 30000);
        }
    }

    private static void addProbesOfMarks() {
        for (int i = 0; i < 20; i++) {
            probe("middle", i);
            probe("apart", i, 0);
            probe("apart", i, 20);
        }
    }

    /** These answer what was. */
    private static void addProbesThatChange() {
        for (int u = 0; u < 3; u++) {
            probe("way", u, 0);
            for (int v = 0; v < 3; v++) {
                for (int g = 1; g <= 10; g++) {
                    probe("worth", u, v, g, 10);
                }
            }
        }
        for (int p = 0; p < 20; p++) {
            probe("licence", p, 10);
            for (int part = 0; part < 8; part++) {
                probe("part", p, part, 10);
            }
        }
    }

    private static void addProbesThatTakeMore() {
        probe("give", 8, 0, 2, 1030, 28);
        probe("give", 0, 0, 3, 1040, 28);
        probe("strike", 2, 0, 0);
        probe("strike", 5, 0, 30000);
        for (int i = 0; i < 21; i++) {
            probe("unstrike");
            probe("check", 30000);
        }
        for (int p = 0; p < 6; p++) {
            probe("mark", 1, p, 50);
        }
        probe("middle", 1);
        for (int kind = 0; kind < 3; kind++) {
            probe("person", kind, 0, 0);
            probe("rule", 1, 0, 0, 0, 0);
            probe("exam");
            probe("tell", 0);
        }
    }

    private static void refusedByANewOne() {
        beyond("person", 3, 0, 0);
        beyond("as", 0, 0);
        beyond("licence", 0, 0);
        beyond("part", 0, 0, 0);
        beyond("worth", 0, 0, 1, 1);
        beyond("way", 3, 1);
        beyond("rule", 0, 0, 0, 0, 0);
        beyond("force", 0, 0, 0);
        refused(Due.NONE, "force", 0, 1, 0);
        beyond("has", 0, 0, 0, 0);
        beyond("why", 0, 0, 1, 0);
        beyond("panel", 0, 0, 1, 0, 0);
        beyond("give", 0, 0, 1, 0, 0);
        beyond("entry", 0, 0);
        beyond("stands", 0, 0);
        beyond("strike", 0, 0, 0);
        refused(Due.NONE, "unstrike");
        beyond("wait", 0);
        beyond("best", 0, 0, 0);
        beyond("given", 0);
        beyond("mark", 0, 0, 0);
        beyond("middle", 0);
        beyond("apart", 0, 0);
        beyond("hard", 0);
        beyond("check", -1);
        beyond("count", 7);
        beyond("found", 0);
        beyond("found", 6);
    }

    private static void refusedByABusyOne() {
        refusedPersonsAndRules();
        refusedCards();
        refusedDays();
        refusedMarks();
        refusedWords();
    }

    private static void refusedPersonsAndRules() {
        beyond("person", -1, 0, 0);
        beyond("person", 0, 30001, 0);
        beyond("person", 0, 0, 8);
        refused(Due.FULL, "person", 1, 0, 0);
        beyond("as", 9, 0);
        beyond("as", 0, 3);
        refused(Due.KIND, "as", 0, 1);
        refused(Due.KIND, "as", 1, 2);
        beyond("licence", 9, 5);
        beyond("licence", 0, -1);
        beyond("licence", 0, 30001);
        beyond("part", 9, 0, 5);
        beyond("part", 0, 8, 5);
        beyond("part", 0, -1, 5);
        beyond("part", 0, 0, -2);
        beyond("part", 0, 0, 30001);
        beyond("worth", 3, 0, 1, 5);
        beyond("worth", 0, 3, 1, 5);
        beyond("worth", 0, 1, 0, 5);
        beyond("worth", 0, 1, 11, 5);
        beyond("worth", 0, 0, 1, 5);
        beyond("worth", 0, 1, 1, 11);
        beyond("worth", 0, 1, 1, -1);
        beyond("way", -1, 0);
        beyond("way", 0, 2);
        beyond("way", 0, -1);
        beyond("rule", 11, 0, 0, 0, 0);
        beyond("rule", 1, 30001, 0, 0, 0);
        beyond("rule", 1, 0, 4001, 0, 0);
        beyond("rule", 1, 0, 0, 20001, 0);
        beyond("rule", 1, 0, 0, 0, 11);
        beyond("rule", MIN, MIN, MIN, MIN, MIN);
        beyond("rule", MAX, MAX, MAX, MAX, MAX);
        beyond("force", 0, 11, 0);
        refused(Due.NONE, "force", 2, 1, 30000);
        refused(Due.NONE, "force", 1, 1, 9);
    }

    private static void refusedCards() {
        beyond("has", 9, 0, 0, 0);
        beyond("has", 0, 0, 0, 30001);
        beyond("why", 0, 0, 11, 0);
        beyond("why", 0, 3, 1, 0);
        beyond("panel", 0, 0, 1, 0, 512);
        beyond("panel", 0, 0, 1, 0, MIN);
        refused(Due.NONE, "panel", 0, 2, 1, 0, 14);
        beyond("give", 9, 0, 1, 1020, 28);
        beyond("give", 8, 0, 2, 1019, 28);
        beyond("give", 8, 0, 2, 1020, 512 + 28);
        beyond("give", 8, 0, 2, 30001, 28);
        refused(Due.STATE, "give", 8, 0, 3, 1020, 28);
        refused(Due.STATE, "give", 8, 0, 2, 1020, 14);
        refused(Due.STATE, "give", 8, 0, 2, 1020, 12);
        refused(Due.STATE, "give", 8, 2, 1, 1020, 28);
        beyond("entry", 4, 0);
        beyond("entry", 0, 5);
        beyond("stands", 4, 0);
        beyond("stands", 0, 30001);
        beyond("strike", 9, 0, 0);
        beyond("strike", 2, -1, 0);
        beyond("strike", 2, 0, 30001);
        refused(Due.KIND, "strike", 0, 0, 0);
        refused(Due.KIND, "strike", 7, 0, 0);
    }

    private static void refusedDays() {
        beyond("wait", 9);
        beyond("wait", -1);
        refused(Due.STATE, "wait", 8);
        beyond("best", 3, 0, 1);
        beyond("best", 0, 30001, 1);
        beyond("best", 0, 0, 0);
        beyond("best", 0, 0, 5);
        beyond("given", 3);
        beyond("given", -1);
    }

    private static void refusedMarks() {
        beyond("mark", 3, 1, 0);
        beyond("mark", 0, 9, 0);
        beyond("mark", 0, 1, 101);
        beyond("mark", 1, 2, -1);
        refused(Due.KIND, "mark", 1, 0, 50);
        refused(Due.KIND, "mark", 1, 7, 50);
        refused(Due.FULL, "mark", 0, 6, 50);
        beyond("middle", 3);
        refused(Due.STATE, "middle", 1);
        refused(Due.STATE, "middle", 2);
        beyond("apart", 0, 101);
        refused(Due.STATE, "apart", 1, 0);
        beyond("hard", 9);
        refused(Due.KIND, "hard", 0);
        refused(Due.KIND, "hard", 7);
    }

    private static void refusedWords() {
        beyond("check", -1);
        beyond("check", 30001);
        beyond("check", MIN);
        beyond("check", MAX);
        beyond("count", 7);
        beyond("count", -1);
        beyond("found", 0);
        beyond("found", 6);
        beyond("found", MIN);
        beyond("found", MAX);
    }

    private static void refusedByAFullOne() {
        refused(Due.FULL, "person", 0, 0, 0);
        refused(Due.FULL, "person", 1, 0, 0);
        refused(Due.FULL, "person", 2, 0, 0);
        refused(Due.FULL, "rule", 1, 0, 4000, 20000, 4090);
        refused(Due.FULL, "give", 10, 1, 1, 50, 7);
        refused(Due.FULL, "strike", 1, 0, 0);
        refused(Due.FULL, "wait", 9);
        refused(Due.FULL, "exam");
        refused(Due.FULL, "mark", 0, 0, 50);
        refused(Due.FULL, "mark", 19, 1, 50);
        refused(Due.FULL, "tell", 0);
        refused(Due.STATE, "wait", 8);
        refused(Due.KIND, "strike", 6, 0, 0);
        refused(Due.STATE, "give", 10, 1, 2, 50, 7);
        beyond("give", 10, 1, 1, 49, 7);
        beyond("person", 0, 0, -1);
        beyond("as", 20, 0);
        beyond("panel", 0, 0, 1, 0, 1 << 20);
        beyond("entry", 60, 0);
        beyond("stands", 60, 0);
        beyond("mark", 20, 0, 0);
        beyond("middle", 20);
        beyond("given", 4);
        beyond("check", 30001);
    }
}

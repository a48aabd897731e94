import java.util.Arrays;

/** The sentences of the document's terms that name a boundary, each by a test of its own. */
public final class TermsTest {
    private static final Due due = new Due("TermsTest");
    /** The examiners 1, 2 and 3; and 4, 5 and 6. */
    private static final int PANEL = 14;
    private static final int OTHERS = 112;

    public static void main(String[] args) {
        licenceUpToADay();
        licenceOfAPanel();
        partsNotAtFirst();
        latestToldPartHolds();
        worthInItself();
        worthIsAGradeOrNone();
        worthGoesOneWay();
        ruleFromADayOn();
        ruleToldLast();
        leastDays();
        leastAge();
        partsAsBits();
        whatAPanelMustHave();
        daysNeverFall();
        strikeFromADayOn();
        strikeToldOnADay();
        oneOfThePanel();
        strikesOfOneExaminer();
        waysOfUnions();
        firstGradeStands();
        gradeLessOneOrMore();
        entriesAhead();
        whateverTheirDays();
        entriesThatStand();
        unionsLeanOnOneAnother();
        hasOnADay();
        hasTheGreatestWorth();
        whyIsTheFirst();
        childsGrades();
        justOneLess();
        youngerThanLeastAge();
        lessThanLeastDays();
        daysOfTheLatestEntry();
        childsHalfIsCut();
        partsByDay();
        partsSinceTheEntry();
        whyAPanelIsTheFirst();
        panelOfThree();
        panelOfExaminers();
        panelOfOtherHalls();
        panelOfTheStruck();
        bestIsTheMost();
        bestIsTheLesserAsBits();
        bestByLoad();
        bestOnceMore();
        bestOfThoseThatMay();
        noGradeAboveTheTenth();
        middleIsTheThird();
        hardOverExamsOfFive();
        hardAtBothEnds();
        apartIsMoreThanABound();
        findingsAreBelowAll();
        findingsInTheirOrder();
        due.end();
    }

    /** Pupil 0, examiners 1 .. 6, child 7, each of its own hall (0 .. 7), born on day 0; the 30 rules without bounds. */
    private static BeltHall hall() {
        BeltHall x = new BeltHall();
        x.person(0, 0, 0);
        for (int i = 1; i <= 6; i++) {
            x.person(1, 0, i);
        }
        x.person(2, 0, 7);
        for (int u = 0; u < 3; u++) {
            for (int g = 1; g <= 10; g++) {
                x.rule(100 * u + g, 0, 0, 0, 0);
            }
        }
        return x;
    }

    // "a LICENCE up to a DAY (that one, too; 30000 at first)"
    private static void licenceUpToADay() {
        BeltHall x = hall();
        due.is("licence at first, on the greatest day", x.why(0, 0, 1, 30000), 0);
        int[] days = {0, 1, 500, 29999};
        for (int day : days) {
            x.licence(0, day);
            due.is("licence up to " + day + ", on it", x.why(0, 0, 1, day), 0);
            due.is("licence up to " + day + ", a day later", x.why(0, 0, 1, day + 1), 3);
            due.is("licence up to " + day + ", on the greatest day", x.why(0, 0, 1, 30000), 3);
        }
        x.licence(0, 30000);
        due.is("licence up to the greatest day", x.why(0, 0, 1, 30000), 0);
    }

    private static void licenceOfAPanel() {
        BeltHall x = hall();
        for (int p = 1; p <= 3; p++) {
            x.licence(p, 500);
            due.is("licence of " + p + ", on its last day", x.panel(0, 0, 1, 500, PANEL), 0);
            due.is("licence of " + p + ", a day later", x.panel(0, 0, 1, 501, PANEL), 4);
            due.is("licence of one that isn't on the panel", x.panel(0, 0, 1, 501, OTHERS), 0);
            x.licence(p, 30000);
            due.is("licence of " + p + " up to the greatest day", x.panel(0, 0, 1, 30000, PANEL), 0);
        }
        x.licence(1, 0);
        due.is("licence up to day 0, on it", x.panel(0, 0, 1, 0, PANEL), 0);
        due.is("licence up to day 0, a day later", x.panel(0, 0, 1, 1, PANEL), 4);
    }

    // "PARTS 0 .. 7, each passed on a DAY or not (not at first; ..)"
    private static void partsNotAtFirst() {
        for (int part = 0; part < 8; part++) {
            BeltHall x = hall();
            x.rule(1, 0, 0, 0, 16 << part);
            due.is("part " + part + " at first", x.why(0, 0, 1, 30000), 6);
            for (int other = 0; other < 8; other++) {
                if (other != part) {
                    x.part(0, other, 0);
                }
            }
            due.is("all but part " + part, x.why(0, 0, 1, 30000), 6);
            x.part(7, part, 0);
            due.is("part " + part + " of another", x.why(0, 0, 1, 30000), 6);
            x.part(0, part, 0);
            due.is("part " + part, x.why(0, 0, 1, 30000), 0);
        }
    }

    // ".. the latest told holds"
    private static void latestToldPartHolds() {
        BeltHall x = hall();
        x.rule(1, 0, 0, 0, 16);
        x.part(0, 0, 10);
        due.is("told 10, on 10", x.why(0, 0, 1, 10), 0);
        x.part(0, 0, 11);
        due.is("then told 11, on 10", x.why(0, 0, 1, 10), 6);
        x.part(0, 0, 9);
        due.is("then told 9, on 10", x.why(0, 0, 1, 10), 0);
        x.part(0, 0, -1);
        due.is("then told not, on 10", x.why(0, 0, 1, 10), 6);
        due.is("then told not, on the greatest day", x.why(0, 0, 1, 30000), 6);
    }

    // "0 at first; in u itself always g"
    private static void worthInItself() {
        for (int u = 0; u < 3; u++) {
            BeltHall x = hall();
            for (int g = 1; g <= 10; g++) {
                x.give(0, u, g, 0, PANEL);
                for (int v = 0; v < 3; v++) {
                    due.is("grade " + g + " of " + u + " in " + v, x.has(0, v, 0, 0), u == v ? g : 0);
                }
            }
        }
    }

    // "what GRADE g of UNION v counts in UNION u: a GRADE or 0"
    private static void worthIsAGradeOrNone() {
        BeltHall x = hall();
        x.give(0, 1, 1, 0, PANEL);
        int[] worths = {1, 10, 0, 5};
        for (int what : worths) {
            x.worth(0, 1, 1, what);
            due.is("worth " + what, x.has(0, 0, 0, 0), what);
        }
        x.worth(0, 1, 2, 10);
        due.is("the worth of another grade", x.has(0, 0, 0, 0), 5);
        x.worth(0, 2, 1, 10);
        due.is("the worth of another union", x.has(0, 0, 0, 0), 5);
    }

    private static void worthGoesOneWay() {
        BeltHall x = hall();
        x.worth(0, 1, 1, 4);
        x.give(0, 1, 1, 0, PANEL);
        x.give(7, 0, 1, 0, PANEL);
        due.is("of 1 in 0", x.has(0, 0, 0, 0), 4);
        due.is("of 1 in 2", x.has(0, 2, 0, 0), 0);
        due.is("of 0 in 1", x.has(7, 1, 0, 0), 0);
    }

    // "IN FORCE on a DAY is that with the latest DAY that isn't above it"
    private static void ruleFromADayOn() {
        BeltHall x = new BeltHall();
        x.rule(1, 30000, 0, 0, 0);
        due.is("ahead of the only one", x.force(0, 1, 29999), Due.NONE);
        due.is("on its day, the greatest", x.force(0, 1, 30000), 0);
        x.rule(1, 0, 0, 0, 0);
        due.is("on its day, the least", x.force(0, 1, 0), 1);
        due.is("the day ahead of the later one", x.force(0, 1, 29999), 1);
        due.is("the later one, though told first", x.force(0, 1, 30000), 0);
        x.rule(1, 29999, 0, 0, 0);
        due.is("a day ahead", x.force(0, 1, 29998), 1);
        due.is("on the day", x.force(0, 1, 29999), 2);
        due.is("a day later", x.force(0, 1, 30000), 0);
    }

    // "of several the one that was told last"
    private static void ruleToldLast() {
        BeltHall x = new BeltHall();
        x.rule(1, 5, 0, 0, 0);
        x.rule(1, 5, 0, 0, 0);
        due.is("the second of a day", x.force(0, 1, 5), 1);
        x.rule(2, 5, 0, 0, 0);
        x.rule(101, 5, 0, 0, 0);
        x.rule(1, 6, 0, 0, 0);
        x.rule(1, 4, 0, 0, 0);
        due.is("not one of another grade, union, or day", x.force(0, 1, 5), 1);
        x.rule(1, 5, 0, 0, 0);
        due.is("the third of a day", x.force(0, 1, 5), 6);
        due.is("not on a later day", x.force(0, 1, 6), 4);
        due.is("not on an earlier day", x.force(0, 1, 4), 5);
    }

    // "LEAST DAYS since (0 .. 4000)"
    private static void leastDays() {
        int[] least = {0, 1, 3999, 4000};
        for (int days : least) {
            BeltHall x = hall();
            x.rule(2, 0, days, 0, 0);
            x.give(0, 0, 1, 100, PANEL);
            if (days > 0) {
                due.is(days + " days, one too few", x.why(0, 0, 2, 100 + days - 1), 5);
                due.is(days + " days, on the entry's day", x.why(0, 0, 2, 100), 5);
            }
            due.is(days + " days, just enough", x.why(0, 0, 2, 100 + days), 0);
            due.is(days + " days, one more", x.why(0, 0, 2, 100 + days + 1), 0);
        }
    }

    // "LEAST AGE in DAYS (0 .. 20000)"
    private static void leastAge() {
        int[] least = {1, 19999, 20000};
        int[] births = {0, 1, 10000};
        for (int age : least) {
            for (int born : births) {
                BeltHall x = new BeltHall();
                x.person(0, born, 0);
                x.rule(1, 0, 0, age, 0);
                due.is("born " + born + ", age " + age + ", a day too young", x.why(0, 0, 1, born + age - 1), 4);
                due.is("born " + born + ", age " + age + ", just of it", x.why(0, 0, 1, born + age), 0);
            }
        }
        BeltHall x = new BeltHall();
        x.person(0, 10001, 0);
        x.rule(1, 0, 0, 20000, 0);
        due.is("born too late for the greatest age", x.why(0, 0, 1, 30000), 4);
    }

    // "PARTS (as bits)"
    private static void partsAsBits() {
        BeltHall x = hall();
        for (int part = 0; part < 8; part++) {
            x.part(0, part, 20 + part);
        }
        int[] bits = {0, 1, 128, 129, 126, 255};
        int[] since = {0, 20, 27, 27, 26, 27};
        for (int i = 0; i < bits.length; i++) {
            x.rule(1, 0, 0, 0, 16 * bits[i]);
            due.is("parts " + bits[i], x.why(0, 0, 1, since[i]), 0);
            if (bits[i] != 0) {
                due.is("parts " + bits[i] + ", a day ahead", x.why(0, 0, 1, since[i] - 1), 6);
            }
        }
    }

    // "PANEL: what each of a PANEL must have (0 .. 10)"
    private static void whatAPanelMustHave() {
        BeltHall x = hall();
        x.rule(1, 0, 0, 0, 0);
        due.is("panel 0, they have nothing", x.panel(0, 0, 1, 0, PANEL), 0);
        for (int p = 1; p <= 3; p++) {
            x.give(p, 1, 1, 0, OTHERS);
        }
        x.rule(1, 0, 0, 0, 10);
        int[] worths = {0, 1, 9, 10};
        for (int what : worths) {
            x.worth(0, 1, 1, what);
            due.is("panel 10, they have " + what, x.panel(0, 0, 1, 0, PANEL), what == 10 ? 0 : 6);
        }
        x.worth(0, 1, 1, 1);
        x.rule(1, 0, 0, 0, 1);
        due.is("panel 1, they have 1", x.panel(0, 0, 1, 0, PANEL), 0);
        due.is("panel 1, one has nothing", x.panel(0, 0, 1, 0, 2 + 4 + 16), 6);
        x.rule(1, 0, 0, 0, 2);
        due.is("panel 2, they have 1", x.panel(0, 0, 1, 0, PANEL), 6);
    }

    // "in the order in which they came (DAYS never fall)"
    private static void daysNeverFall() {
        BeltHall y = hall();
        y.give(0, 0, 1, 7, PANEL);
        due.is("the day ahead of the only one", y.give(7, 0, 1, 6, PANEL), Due.BEYOND);
        due.is("the day of the only one", y.give(7, 0, 1, 7, PANEL), 1);
        BeltHall x = hall();
        due.is("day 0", x.give(0, 0, 1, 0, PANEL), 0);
        due.is("day 0 again", x.give(7, 0, 1, 0, PANEL), 1);
        due.is("day 7", x.give(0, 0, 2, 7, PANEL), 2);
        due.is("day 6", x.give(7, 0, 2, 6, PANEL), Due.BEYOND);
        due.is("day 7 again", x.give(7, 0, 2, 7, PANEL), 3);
        due.is("the greatest day", x.give(0, 0, 3, 30000, PANEL), 4);
        due.is("the day ahead of it", x.give(7, 0, 3, 29999, PANEL), Due.BEYOND);
        due.is("the greatest day again", x.give(7, 0, 3, 30000, PANEL), 5);
    }

    // "one of its PANEL is STRUCK from its DAY or an earlier one on"
    private static void strikeFromADayOn() {
        int[] from = {0, 99, 100, 101, 30000};
        for (int day : from) {
            BeltHall x = hall();
            x.way(0, 1);
            x.give(0, 0, 1, 100, PANEL);
            due.is("struck from " + day + " on", x.strike(1, day, 0), day <= 100 ? 1 : 0);
            due.is("struck from " + day + " on", x.stands(0, 30000), day <= 100 ? 0 : 1);
        }
        BeltHall x = hall();
        x.way(0, 1);
        x.give(0, 0, 1, 30000, PANEL);
        due.is("an entry of the greatest day, struck from it on", x.strike(1, 30000, 30000), 1);
    }

    // "by a STRIKE told by k"
    private static void strikeToldOnADay() {
        int[] told = {0, 1, 500, 30000};
        for (int day : told) {
            BeltHall x = hall();
            x.way(0, 1);
            x.give(0, 0, 1, 100, PANEL);
            due.is("told on " + day, x.strike(1, 0, day), 1);
            due.is("told on " + day + ", known by it", x.stands(0, day), 0);
            due.is("told on " + day + ", known by the greatest", x.stands(0, 30000), 0);
            if (day > 0) {
                due.is("told on " + day + ", known by the day ahead", x.stands(0, day - 1), 1);
                due.is("told on " + day + ", known by the least", x.stands(0, 0), 1);
            }
        }
    }

    // "three EXAMINERS, as bits" .. "one of its PANEL is STRUCK"
    private static void oneOfThePanel() {
        for (int p = 1; p <= 6; p++) {
            BeltHall x = hall();
            x.way(0, 1);
            x.give(0, 0, 1, 0, PANEL);
            due.is("examiner " + p + " is struck", x.strike(p, 0, 0), p <= 3 ? 1 : 0);
            due.is("examiner " + p + " is struck", x.stands(0, 0), p <= 3 ? 0 : 1);
        }
    }

    private static void strikesOfOneExaminer() {
        BeltHall x = hall();
        x.way(0, 1);
        x.give(0, 0, 1, 100, PANEL);
        due.is("struck from a later day on, told early", x.strike(1, 101, 0), 0);
        due.is("struck from an earlier day on, told late", x.strike(1, 99, 200), 1);
        due.is("the day of one and the telling of the other don't add up", x.stands(0, 199), 1);
        due.is("the second, told", x.stands(0, 200), 0);
        due.is("told once more, on the least day", x.strike(1, 0, 0), 0);
        due.is("the third, told", x.stands(0, 0), 0);
    }

    // "A UNION takes strikes so: 0 what was given stands (at first), 1 it falls"
    private static void waysOfUnions() {
        BeltHall x = hall();
        for (int u = 0; u < 3; u++) {
            x.give(0, u, 1, 0, PANEL);
        }
        due.is("at first none falls", x.strike(1, 0, 0), 0);
        for (int u = 0; u < 3; u++) {
            x.way(u, 1);
            for (int e = 0; e < 3; e++) {
                due.is("union " + u + " takes them, entry " + e, x.stands(e, 0), e == u ? 0 : 1);
            }
            x.way(u, 0);
            due.is("union " + u + " takes them no more", x.stands(u, 0), 1);
        }
    }

    // "and its GRADE is 1"
    private static void firstGradeStands() {
        BeltHall x = hall();
        x.way(0, 1);
        x.give(0, 0, 1, 0, PANEL);
        x.strike(1, 0, 0);
        x.give(0, 0, 1, 0, OTHERS);
        due.is("a first grade that fell", x.stands(0, 0), 0);
        due.is("a first grade with nothing that stands ahead", x.stands(1, 0), 1);
    }

    // "what the PERSON has in that UNION by ENTRIES ahead of it that STAND .. is its GRADE less 1 or more"
    private static void gradeLessOneOrMore() {
        int[] worths = {0, 1, 2, 3, 4, 10};
        for (int what : worths) {
            BeltHall x = hall();
            x.worth(0, 1, 1, 2);
            x.give(0, 1, 1, 0, PANEL);
            x.give(0, 0, 3, 0, PANEL);
            x.worth(0, 1, 1, what);
            due.is("the third, on what is worth " + what, x.stands(1, 0), what >= 2 ? 1 : 0);
            due.is("it has", x.has(0, 0, 0, 0), what >= 2 ? Math.max(3, what) : what);
        }
        BeltHall x = hall();
        x.worth(0, 1, 1, 1);
        x.give(0, 1, 1, 0, PANEL);
        x.give(0, 0, 2, 0, PANEL);
        x.worth(0, 1, 1, 0);
        due.is("the second, on nothing", x.stands(1, 0), 0);
    }

    // "by ENTRIES ahead of it"
    private static void entriesAhead() {
        BeltHall x = hall();
        x.way(0, 1);
        x.give(0, 0, 1, 10, PANEL);
        x.give(0, 0, 2, 10, OTHERS);
        due.is("both fall", x.strike(1, 0, 10), 2);
        due.is("the first once more", x.give(0, 0, 1, 10, OTHERS), 2);
        due.is("it stands", x.stands(2, 10), 1);
        due.is("it is behind the second, which still falls", x.stands(1, 10), 0);
        due.is("so it has", x.has(0, 0, 10, 10), 1);
        due.is("the second once more", x.give(0, 0, 2, 10, OTHERS), 3);
        due.is("so it has", x.has(0, 0, 10, 10), 2);
        x.give(7, 0, 1, 10, OTHERS);
        x.strike(4, 0, 20);
        due.is("another's entries hold nothing up", x.stands(3, 20), 0);
    }

    // "(whatever their DAYS)"
    private static void whateverTheirDays() {
        BeltHall x = hall();
        for (int g = 1; g <= 3; g++) {
            x.give(0, 0, g, 10000 * g, PANEL);
        }
        for (int e = 0; e < 3; e++) {
            due.is("known by a day ahead of all", x.stands(e, 0), 1);
        }
        due.is("has on the greatest day, as known by the least", x.has(0, 0, 30000, 0), 3);
        due.is("has on the least day, as known by the greatest", x.has(0, 0, 0, 30000), 0);
    }

    // "by ENTRIES ahead of it that STAND"
    private static void entriesThatStand() {
        BeltHall x = hall();
        x.way(0, 1);
        x.give(0, 0, 1, 0, PANEL);
        for (int g = 2; g <= 10; g++) {
            x.give(0, 0, g, 0, OTHERS);
        }
        due.is("all ten fall with the first", x.strike(1, 0, 0), 10);
        for (int e = 0; e < 10; e++) {
            due.is("entry " + e, x.stands(e, 0), 0);
        }
        due.is("it has nothing", x.has(0, 0, 0, 0), 0);
        x.unstrike();
        due.is("it has all again", x.has(0, 0, 0, 0), 10);
    }

    private static void unionsLeanOnOneAnother() {
        BeltHall x = hall();
        x.way(0, 1);
        x.worth(1, 0, 1, 1);
        x.give(0, 0, 1, 0, PANEL);
        x.give(0, 1, 2, 0, PANEL);
        x.give(0, 2, 1, 0, PANEL);
        due.is("a union that takes no strikes leans on one that does", x.strike(1, 0, 0), 2);
        due.is("what leans", x.stands(1, 0), 0);
        due.is("what leans on nothing", x.stands(2, 0), 1);
    }

    // "of its ENTRIES with that DAY or an earlier one that STAND as known by k; 0 without"
    private static void hasOnADay() {
        BeltHall x = hall();
        due.is("without", x.has(0, 0, 30000, 30000), 0);
        x.give(0, 0, 1, 100, PANEL);
        due.is("the day ahead", x.has(0, 0, 99, 30000), 0);
        due.is("that day", x.has(0, 0, 100, 30000), 1);
        due.is("a day later", x.has(0, 0, 101, 30000), 1);
        x.way(0, 1);
        x.strike(1, 100, 300);
        due.is("not known", x.has(0, 0, 100, 299), 1);
        due.is("known", x.has(0, 0, 100, 300), 0);
    }

    // "the greatest WORTH in it of the GRADES"
    private static void hasTheGreatestWorth() {
        BeltHall x = hall();
        x.give(0, 0, 1, 1, PANEL);
        x.give(0, 0, 2, 2, PANEL);
        x.give(0, 2, 1, 3, PANEL);
        x.worth(1, 0, 1, 6);
        x.worth(1, 0, 2, 5);
        x.worth(1, 2, 1, 7);
        due.is("one", x.has(0, 1, 1, 0), 6);
        due.is("the first is worth more than the second", x.has(0, 1, 2, 0), 6);
        due.is("another union's is worth more", x.has(0, 1, 3, 0), 7);
    }

    // "WHY .., the first of": all is wrong, and one thing after the other is mended
    private static void whyIsTheFirst() {
        BeltHall x = new BeltHall();
        x.person(2, 0, 0);
        for (int i = 1; i <= 3; i++) {
            x.person(1, 0, i);
        }
        x.rule(1, 0, 0, 0, 0);
        x.give(0, 0, 1, 900, PANEL);
        x.licence(0, 919);
        due.is("no rule", x.why(0, 0, 2, 920), 1);
        for (int g = 2; g <= 5; g++) {
            x.rule(g, 920, 42, 921, 16);
        }
        due.is("a child above 4", x.why(0, 0, 5, 920), 1);
        due.is("not just one less", x.why(0, 0, 3, 920), 2);
        due.is("the licence ended", x.why(0, 0, 2, 920), 3);
        x.licence(0, 920);
        due.is("too young", x.why(0, 0, 2, 920), 4);
        x.rule(2, 920, 42, 920, 16);
        due.is("too early", x.why(0, 0, 2, 920), 5);
        x.rule(2, 920, 41, 920, 16);
        due.is("a part", x.why(0, 0, 2, 920), 6);
        x.part(0, 0, 900);
        due.is("it may", x.why(0, 0, 2, 920), 0);
        due.is("no rule on the day ahead", x.why(0, 0, 2, 919), 1);
    }

    // "it is a CHILD and the GRADE is above 4"
    private static void childsGrades() {
        BeltHall x = hall();
        for (int g = 1; g <= 4; g++) {
            due.is("a child's grade " + g, x.give(7, 0, g, 0, PANEL), g - 1);
        }
        for (int g = 5; g <= 10; g++) {
            due.is("a child's grade " + g, x.why(7, 0, g, 0), 1);
        }
        due.is("a child's fifth", x.give(7, 0, 5, 0, PANEL), Due.STATE);
        due.is("a child's fourth again", x.why(7, 0, 4, 0), 2);
        for (int g = 1; g <= 5; g++) {
            x.give(0, 0, g, 0, PANEL);
            x.give(4, 0, g, 0, PANEL);
        }
        due.is("a pupil's fifth", x.has(0, 0, 0, 0), 5);
        due.is("an examiner's fifth", x.has(4, 0, 0, 0), 5);
    }

    // "what it HAS isn't just one less"
    private static void justOneLess() {
        BeltHall x = hall();
        x.give(0, 1, 1, 0, PANEL);
        for (int has = 0; has <= 10; has++) {
            x.worth(0, 1, 1, has);
            for (int g = 1; g <= 10; g++) {
                due.is("it has " + has + ", grade " + g, x.why(0, 0, g, 0), g == has + 1 ? 0 : 2);
            }
        }
    }

    // "it is younger than LEAST AGE"
    private static void youngerThanLeastAge() {
        BeltHall x = new BeltHall();
        x.person(0, 30000, 0);
        x.person(0, 1, 0);
        x.rule(1, 0, 0, 0, 0);
        due.is("age 0, on the day of birth", x.why(0, 0, 1, 30000), 0);
        due.is("age 0, the day ahead of birth", x.why(0, 0, 1, 29999), 4);
        due.is("age 0, born on day 1, on day 0", x.why(1, 0, 1, 0), 4);
        due.is("age 0, born on day 1, on day 1", x.why(1, 0, 1, 1), 0);
    }

    // "the latest of its ENTRIES that STAND (..) is less than LEAST DAYS ahead"
    private static void lessThanLeastDays() {
        BeltHall x = hall();
        x.rule(1, 0, 4000, 0, 0);
        due.is("without an entry", x.why(0, 0, 1, 0), 0);
        x.rule(102, 0, 10, 0, 0);
        x.give(0, 1, 1, 0, PANEL);
        due.is("an entry of day 0, on day 9", x.why(0, 1, 2, 9), 5);
        due.is("an entry of day 0, on day 10", x.why(0, 1, 2, 10), 0);
        due.is("of another union, a day too early", x.why(0, 0, 1, 3999), 5);
        due.is("of another union", x.why(0, 0, 1, 4000), 0);
    }

    private static void daysOfTheLatestEntry() {
        BeltHall x = hall();
        x.way(2, 1);
        x.rule(2, 0, 50, 0, 0);
        x.give(0, 0, 1, 100, PANEL);
        x.give(0, 2, 1, 120, OTHERS);
        due.is("ahead of the second entry", x.why(0, 0, 2, 119), 5);
        due.is("since the first", x.why(0, 0, 2, 150), 5);
        due.is("since the second, a day too early", x.why(0, 0, 2, 169), 5);
        due.is("since the second", x.why(0, 0, 2, 170), 0);
        x.strike(4, 120, 151);
        due.is("the second stands as known by 150", x.why(0, 0, 2, 150), 5);
        due.is("the second fell as known by 151", x.why(0, 0, 2, 151), 0);
        x.give(7, 0, 1, 160, PANEL);
        due.is("another's entry", x.why(0, 0, 2, 160), 0);
    }

    // "(for a CHILD half of these, cut)"
    private static void childsHalfIsCut() {
        int[] least = {0, 1, 2, 3, 4, 3999, 4000};
        int[] half = {0, 0, 1, 1, 2, 1999, 2000};
        for (int i = 0; i < least.length; i++) {
            BeltHall x = hall();
            x.rule(2, 0, least[i], 0, 0);
            x.give(7, 0, 1, 100, PANEL);
            x.give(0, 0, 1, 100, PANEL);
            due.is("half of " + least[i], x.why(7, 0, 2, 100 + half[i]), 0);
            due.is("a pupil's " + least[i], x.why(0, 0, 2, 100 + half[i]), least[i] > half[i] ? 5 : 0);
            if (half[i] > 0) {
                due.is("half of " + least[i] + ", a day too early", x.why(7, 0, 2, 100 + half[i] - 1), 5);
            }
        }
    }

    // "some of the PARTS isn't passed on that DAY or an earlier one"
    private static void partsByDay() {
        BeltHall x = hall();
        x.rule(1, 0, 0, 0, 16 * 2);
        int[] days = {0, 1, 30000};
        for (int day : days) {
            x.part(0, 1, day);
            due.is("passed on " + day + ", on it", x.why(0, 0, 1, day), 0);
            due.is("passed on " + day + ", on the greatest day", x.why(0, 0, 1, 30000), 0);
            if (day > 0) {
                due.is("passed on " + day + ", the day ahead", x.why(0, 0, 1, day - 1), 6);
            }
        }
    }

    // "or was passed ahead of the DAY of that ENTRY"
    private static void partsSinceTheEntry() {
        BeltHall x = hall();
        x.way(2, 1);
        x.rule(2, 0, 0, 0, 16);
        x.give(0, 0, 1, 100, PANEL);
        x.part(0, 0, 99);
        due.is("passed the day ahead of the entry", x.why(0, 0, 2, 100), 6);
        x.part(0, 0, 100);
        due.is("passed on the entry's day", x.why(0, 0, 2, 100), 0);
        x.give(0, 2, 1, 101, OTHERS);
        due.is("ahead of another union's entry, on its day", x.why(0, 0, 2, 101), 6);
        due.is("that entry is of a later day", x.why(0, 0, 2, 100), 0);
        x.strike(4, 0, 200);
        due.is("that entry stands as known by 199", x.why(0, 0, 2, 199), 6);
        due.is("that entry fell as known by 200", x.why(0, 0, 2, 200), 0);
    }

    // "WHY a PANEL .. may not .., the first of": each panel has the next faults, too
    private static void whyAPanelIsTheFirst() {
        BeltHall x = new BeltHall();
        int[] halls = {0, 0, 2, 3, 4, 5, 6};
        for (int p = 0; p < 7; p++) {
            x.person(p == 0 ? 0 : 1, 0, halls[p]);
        }
        x.rule(101, 0, 0, 0, 0);
        x.give(5, 1, 1, 50, 2 + 4 + 8);
        x.give(6, 1, 1, 50, 2 + 4 + 8);
        x.worth(0, 1, 1, 3);
        x.rule(1, 0, 0, 0, 3);
        x.licence(2, 99);
        x.strike(3, 100, 100);
        due.is("four", x.panel(0, 0, 1, 100, 1 + 2 + 4 + 8), 1);
        due.is("two", x.panel(0, 0, 1, 100, 1 + 2), 1);
        due.is("a pupil", x.panel(0, 0, 1, 100, 1 + 2 + 4), 2);
        due.is("one of its hall", x.panel(0, 0, 1, 100, 2 + 4 + 8), 3);
        due.is("one's licence ended", x.panel(0, 0, 1, 100, 4 + 8 + 16), 4);
        due.is("one is struck", x.panel(0, 0, 1, 100, 8 + 16 + 32), 5);
        due.is("one has less", x.panel(0, 0, 1, 100, 16 + 32 + 64), 6);
        x.give(4, 1, 1, 100, 2 + 32 + 64);
        due.is("it may", x.panel(0, 0, 1, 100, 16 + 32 + 64), 0);
        due.is("not on the day ahead", x.panel(0, 0, 1, 99, 16 + 32 + 64), 6);
    }

    // "it isn't of three"
    private static void panelOfThree() {
        BeltHall x = hall();
        for (int bits = 0; bits < 256; bits++) {
            int want = Integer.bitCount(bits) != 3 ? 1 : (bits & 129) != 0 ? 2 : 0;
            due.is("panel " + bits, x.panel(0, 0, 1, 0, bits), want);
        }
    }

    // "one is no EXAMINER"
    private static void panelOfExaminers() {
        BeltHall x = hall();
        x.person(0, 0, 7);
        due.is("a pupil", x.panel(0, 0, 1, 0, 2 + 4 + 256), 2);
        due.is("a child", x.panel(0, 0, 1, 0, 2 + 4 + 128), 2);
        due.is("the person itself, a pupil", x.panel(0, 0, 1, 0, 1 + 2 + 4), 2);
        due.is("three others", x.panel(0, 0, 1, 0, 1 + 128 + 256), 2);
        due.is("the last three", x.panel(0, 0, 1, 0, OTHERS), 0);
    }

    // "one is that PERSON, or of its HALL"
    private static void panelOfOtherHalls() {
        BeltHall x = hall();
        for (int p = 1; p <= 6; p++) {
            due.is("examiner " + p + " itself", x.panel(p, 0, 1, 0, PANEL), p <= 3 ? 3 : 0);
            due.is("examiner " + p + " itself", x.panel(p, 0, 1, 0, OTHERS), p <= 3 ? 0 : 3);
        }
        for (int h = 1; h <= 7; h++) {
            int p = x.person(0, 0, h);
            due.is("a pupil of hall " + h, x.panel(p, 0, 1, 0, PANEL), h <= 3 ? 3 : 0);
        }
    }

    // "one is STRUCK from that DAY or an earlier one on, by a STRIKE told by it"
    private static void panelOfTheStruck() {
        int[][] strikes = {{100, 100}, {99, 100}, {100, 99}, {101, 100}, {100, 101}, {0, 0}, {30000, 0}, {0, 30000}};
        int[] want = {5, 5, 5, 0, 0, 5, 0, 0};
        for (int i = 0; i < strikes.length; i++) {
            BeltHall x = hall();
            x.strike(2, strikes[i][0], strikes[i][1]);
            String what = "struck from " + strikes[i][0] + " on, told on " + strikes[i][1];
            due.is(what, x.panel(0, 0, 1, 100, PANEL), want[i]);
            due.is(what + ", another panel", x.panel(0, 0, 1, 100, OTHERS), 0);
            due.is(what + ", on the greatest day", x.panel(0, 0, 1, 30000, PANEL), 5);
            x.unstrike();
            due.is(what + ", taken back", x.panel(0, 0, 1, 30000, PANEL), 0);
        }
    }

    private static void given(String what, BeltHall x, int... want) {
        for (int i = 0; i < want.length; i++) {
            due.is(what + ", given(" + i + ")", x.given(i), want[i]);
        }
        due.is(what + ", there are no more", x.given(want.length), Due.BEYOND);
    }

    /** Examiners 0 .. n - 1 of the halls that are told, then pupils of those that are told. */
    private static BeltHall day(int[] examiners, int[] pupils) {
        BeltHall x = new BeltHall();
        for (int h : examiners) {
            x.person(1, 0, h);
        }
        for (int h : pupils) {
            x.wait(x.person(0, 0, h));
        }
        x.rule(1, 0, 0, 0, 0);
        return x;
    }

    // "those ways that grade the most"
    private static void bestIsTheMost() {
        // The second can have 0, 1 and 2 alone, so the first leaves them, and takes the greatest panel.
        BeltHall x = day(new int[] {0, 0, 0, 1, 1, 1}, new int[] {7, 1});
        due.is("both", x.best(0, 0, 1), 2);
        given("both", x, 56, 7);
        // None can have what the other has: each has but one panel, and they are apart.
        BeltHall y = day(new int[] {0, 0, 0, 1, 1, 1}, new int[] {0, 1, 0, 1});
        due.is("two of four", y.best(0, 0, 1), 2);
        given("two of four", y, 56, 7, 0, 0);
        due.is("four of four", y.best(0, 0, 2), 4);
        given("four of four", y, 56, 7, 56, 7);
    }

    // "of several that in which the first CANDIDATE's PANEL is the lesser as bits (none is greater than all)"
    private static void bestIsTheLesserAsBits() {
        BeltHall x = day(new int[] {0, 1, 2, 3, 4}, new int[] {7, 7, 7, 7});
        due.is("one of four", x.best(0, 0, 1), 1);
        given("a panel ahead of none", x, 7, 0, 0, 0);
        due.is("three of four", x.best(0, 0, 2), 3);
        given("the first's, then the second's", x, 7, 11, 28, 0);
        due.is("four of four", x.best(0, 0, 3), 4);
        given("the first's, then the second's, then the third's", x, 7, 7, 11, 28);
        BeltHall y = day(new int[] {0, 1, 2, 3, 4}, new int[] {0, 7});
        due.is("one of two", y.best(0, 0, 1), 1);
        given("the first's, though the second's would be lesser", y, 14, 0);
    }

    // "with each EXAMINER in LOAD PANELS at most (1 .. 4)"
    private static void bestByLoad() {
        for (int waiting = 0; waiting <= 4; waiting++) {
            for (int load = 1; load <= 4; load++) {
                BeltHall x = day(new int[] {0, 1, 2}, filled(waiting, 0));
                int[] want = new int[waiting];
                due.is("their own hall's examiner leaves but two", x.best(0, 0, load), 0);
                given("none", x, want);
                BeltHall y = day(new int[] {0, 1, 2}, filled(waiting, 7));
                for (int i = 0; i < Math.min(load, waiting); i++) {
                    want[i] = 7;
                }
                due.is(waiting + " wait, load " + load, y.best(0, 0, load), Math.min(load, waiting));
                given(waiting + " wait, load " + load, y, want);
            }
        }
        BeltHall x = day(new int[] {0, 1, 2, 3, 4, 5}, filled(4, 7));
        due.is("six examiners, load 1", x.best(0, 0, 1), 2);
        given("six examiners, load 1", x, 7, 56, 0, 0);
        due.is("six examiners, load 2", x.best(0, 0, 2), 4);
        given("six examiners, load 2", x, 7, 7, 56, 56);
    }

    /** What best() found ahead takes nobody's time. */
    private static void bestOnceMore() {
        BeltHall x = day(new int[] {0, 1, 2, 3, 4, 5}, filled(4, 7));
        int[][] want = {{7, 56, 0, 0}, {7, 7, 56, 56}, {7, 7, 7, 56}, {7, 7, 7, 7}};
        for (int load = 1; load <= 4; load++) {
            for (int time = 0; time < 3; time++) {
                due.is("load " + load + " once more", x.best(0, 0, load), Math.min(4, 2 * load));
                given("load " + load + " once more", x, want[load - 1]);
            }
        }
        due.is("load 1 behind load 4", x.best(0, 0, 1), 2);
        given("load 1 behind load 4", x, want[0]);
    }

    private static int[] filled(int n, int with) {
        int[] a = new int[n];
        Arrays.fill(a, with);
        return a;
    }

    // "each CANDIDATE that may be graded has a PANEL that may, or none"
    private static void bestOfThoseThatMay() {
        BeltHall x = day(new int[] {0, 1, 2}, new int[] {7, 7, 7, 7});
        x.licence(3, 9);
        x.licence(0, 10);
        due.is("on the licence's last day", x.best(0, 9, 4), 4);
        given("on the licence's last day", x, 7, 7, 7, 7);
        due.is("the first's licence ended", x.best(0, 10, 4), 3);
        given("the first's licence ended", x, 0, 7, 7, 7);
        due.is("an examiner's licence ended", x.best(0, 11, 4), 0);
        given("an examiner's licence ended", x, 0, 0, 0, 0);
        due.is("no rule in another union", x.best(1, 9, 4), 0);
        given("no rule in another union", x, 0, 0, 0, 0);
        x.strike(1, 5, 6);
        due.is("ahead of the strike", x.best(0, 5, 1), 1);
        due.is("a strike that is told", x.best(0, 6, 1), 0);
    }

    // "each wanting the next GRADE of the one UNION above what it HAS"
    private static void noGradeAboveTheTenth() {
        BeltHall x = day(new int[] {0, 1, 2}, new int[] {7, 7});
        x.rule(10, 0, 0, 0, 0);
        x.rule(101, 0, 0, 0, 0);
        x.give(3, 1, 1, 0, 7);
        int[] worths = {0, 1, 8, 9, 10};
        int[] want = {2, 1, 1, 2, 1};
        for (int i = 0; i < worths.length; i++) {
            x.worth(0, 1, 1, worths[i]);
            due.is("the first has " + worths[i], x.best(0, 0, 4), want[i]);
            given("the first has " + worths[i], x, want[i] == 2 ? 7 : 0, 7);
        }
    }

    private static BeltHall exams(int n) {
        BeltHall x = new BeltHall();
        for (int p = 0; p < 6; p++) {
            x.person(1, 0, 0);
        }
        for (int i = 0; i < n; i++) {
            x.exam();
        }
        return x;
    }

    private static void five(BeltHall x, int exam, int... marks) {
        for (int p = 0; p < 5; p++) {
            x.mark(exam, p, marks[p]);
        }
    }

    // "MIDDLE of five: the third by size"
    private static void middleIsTheThird() {
        int[][] fives = {{0, 0, 0, 0, 0}, {100, 100, 100, 100, 100}, {0, 0, 0, 100, 100}, {100, 0, 100, 0, 100},
            {0, 1, 2, 3, 4}, {4, 3, 2, 1, 0}, {2, 0, 1, 4, 3}, {1, 2, 2, 2, 3}, {9, 9, 5, 1, 1}, {100, 99, 0, 1, 50}};
        int[] want = {0, 100, 0, 100, 2, 2, 2, 2, 5, 50};
        BeltHall x = exams(10);
        for (int i = 0; i < 10; i++) {
            five(x, i, fives[i]);
            due.is("middle " + i, x.middle(i), want[i]);
        }
        BeltHall y = exams(1);
        for (int p = 0; p < 5; p++) {
            due.is("of " + p + " marks", y.middle(0), Due.STATE);
            due.is("of " + p + " marks", y.apart(0, 0), Due.STATE);
            y.mark(0, p, 0);
            y.mark(0, p, p);
        }
        due.is("of five marks", y.middle(0), 2);
    }

    // "the sum of its MARKS less MIDDLES, over all EXAMS of five"
    private static void hardOverExamsOfFive() {
        BeltHall x = exams(2);
        for (int p = 0; p < 4; p++) {
            x.mark(0, p, 10 * p);
            due.is("of " + (p + 1) + " marks", x.hard(0), 0);
        }
        x.mark(0, 4, 40);
        int[] want = {-20, -10, 0, 10, 20, 0};
        for (int p = 0; p < 6; p++) {
            due.is("of five, examiner " + p, x.hard(p), want[p]);
        }
        for (int p = 5; p > 0; p--) {
            x.mark(1, p, p);
        }
        int[] both = {-20, -10 - 2, -1, 10, 20 + 1, 2};
        for (int p = 0; p < 6; p++) {
            due.is("of both, examiner " + p, x.hard(p), both[p]);
        }
    }

    private static void hardAtBothEnds() {
        BeltHall x = exams(20);
        for (int i = 0; i < 20; i++) {
            five(x, i, 0, 100, 100, 100, 100);
        }
        due.is("the least", x.hard(0), -2000);
        due.is("none", x.hard(1), 0);
        for (int i = 0; i < 20; i++) {
            five(x, i, 100, 0, 0, 0, 0);
        }
        due.is("the greatest", x.hard(0), 2000);
        due.is("none", x.hard(1), 0);
    }

    // "MARKS that are more than a bound away from the MIDDLE"
    private static void apartIsMoreThanABound() {
        BeltHall x = exams(3);
        five(x, 0, 0, 100, 50, 51, 49);
        int[][] first = {{0, 4}, {1, 2}, {49, 2}, {50, 0}, {100, 0}};
        for (int[] row : first) {
            due.is("bound " + row[0], x.apart(0, row[0]), row[1]);
        }
        five(x, 1, 0, 0, 0, 100, 100);
        int[][] second = {{0, 2}, {99, 2}, {100, 0}};
        for (int[] row : second) {
            due.is("above, bound " + row[0], x.apart(1, row[0]), row[1]);
        }
        five(x, 2, 100, 100, 100, 0, 1);
        int[][] third = {{0, 2}, {98, 2}, {99, 1}, {100, 0}};
        for (int[] row : third) {
            due.is("below, bound " + row[0], x.apart(2, row[0]), row[1]);
        }
    }

    // "FINDINGS are answers below -1000000: LOW is -1000000; LOW - 1 BEYOND, .."
    private static void findingsAreBelowAll() {
        BeltHall x = exams(1);
        due.is("beyond", x.count(7), -1000001);
        due.is("none", x.unstrike(), -1000002);
        due.is("state", x.middle(0), -1000003);
        due.is("full", x.person(1, 0, 0), -1000004);
        x.person(0, 0, 0);
        due.is("kind", x.hard(6), -1000005);
        for (int k = 1; k <= 5; k++) {
            due.is("each once, found(" + k + ")", x.found(k), 1);
        }
        for (int i = 0; i < 400; i++) {
            x.count(7);
        }
        due.is("many", x.found(1), 401);
        due.is("found() counts its own", x.found(6), -1000001);
        due.is("found() counts its own", x.found(1), 402);
    }

    // "Each act tells its findings in the order in which they are asked"; FullTest has those with FULL
    private static void findingsInTheirOrder() {
        BeltHall x = exams(1);
        x.person(0, 0, 7);
        x.wait(6);
        due.is("as: beyond ahead of kind", x.as(6, 3), Due.BEYOND);
        due.is("force: beyond ahead of none", x.force(0, 1, 30001), Due.BEYOND);
        due.is("panel: beyond ahead of none", x.panel(6, 0, 1, 0, 128), Due.BEYOND);
        due.is("panel: none", x.panel(6, 0, 1, 0, 7), Due.NONE);
        due.is("give: beyond ahead of state", x.give(6, 0, 1, 0, 128), Due.BEYOND);
        due.is("give: state", x.give(6, 0, 1, 0, 7), Due.STATE);
        due.is("strike: beyond ahead of kind", x.strike(6, 0, -1), Due.BEYOND);
        due.is("strike: kind", x.strike(6, 0, 0), Due.KIND);
        due.is("wait: beyond", x.wait(7), Due.BEYOND);
        due.is("wait: state", x.wait(6), Due.STATE);
        due.is("given: beyond ahead of state", x.given(1), Due.BEYOND);
        due.is("given: state", x.given(0), Due.STATE);
        due.is("mark: beyond ahead of kind, by the exam", x.mark(1, 6, 0), Due.BEYOND);
        due.is("mark: beyond ahead of kind, by the mark", x.mark(0, 6, 101), Due.BEYOND);
        due.is("mark: kind", x.mark(0, 6, 0), Due.KIND);
        due.is("apart: beyond ahead of state", x.apart(0, 101), Due.BEYOND);
        due.is("apart: state", x.apart(0, 100), Due.STATE);
        int[] found = {10, 1, 4, 0, 2};
        for (int k = 1; k <= 5; k++) {
            due.is("found(" + k + ")", x.found(k), found[k - 1]);
        }
    }
}

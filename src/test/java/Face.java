/** The document's calls by their names, so that tables of calls can be asked. */
final class Face {
    /** In the document's order. */
    static final String[] CALLS = {"person", "as", "licence", "part", "worth", "way", "rule", "force", "has", "why",
        "panel", "give", "entry", "stands", "strike", "unstrike", "wait", "go", "best", "given", "exam", "mark",
        "middle", "apart", "hard", "tell", "check", "count", "found"};

    private Face() {
    }

    static int ask(BeltHall x, String call, int... a) {
        return switch (call) {
            case "person" -> x.person(a[0], a[1], a[2]);
            case "as" -> x.as(a[0], a[1]);
            case "licence" -> x.licence(a[0], a[1]);
            case "part" -> x.part(a[0], a[1], a[2]);
            case "worth" -> x.worth(a[0], a[1], a[2], a[3]);
            case "way" -> x.way(a[0], a[1]);
            case "rule" -> x.rule(a[0], a[1], a[2], a[3], a[4]);
            case "force" -> x.force(a[0], a[1], a[2]);
            case "has" -> x.has(a[0], a[1], a[2], a[3]);
            case "why" -> x.why(a[0], a[1], a[2], a[3]);
            case "panel" -> x.panel(a[0], a[1], a[2], a[3], a[4]);
            case "give" -> x.give(a[0], a[1], a[2], a[3], a[4]);
            case "entry" -> x.entry(a[0], a[1]);
            case "stands" -> x.stands(a[0], a[1]);
            case "strike" -> x.strike(a[0], a[1], a[2]);
            case "unstrike" -> x.unstrike();
            case "wait" -> x.wait(a[0]);
            case "go" -> x.go();
            case "best" -> x.best(a[0], a[1], a[2]);
            case "given" -> x.given(a[0]);
            case "exam" -> x.exam();
            case "mark" -> x.mark(a[0], a[1], a[2]);
            case "middle" -> x.middle(a[0]);
            case "apart" -> x.apart(a[0], a[1]);
            case "hard" -> x.hard(a[0]);
            case "tell" -> x.tell(a[0]);
            case "check" -> x.check(a[0]);
            case "count" -> x.count(a[0]);
            case "found" -> x.found(a[0]);
            default -> throw new IllegalArgumentException(call);
        };
    }

    static String written(String call, int... a) {
        StringBuilder text = new StringBuilder(call).append('(');
        for (int i = 0; i < a.length; i++) {
            text.append(i == 0 ? "" : ", ").append(a[i]);
        }
        return text.append(')').toString();
    }
}

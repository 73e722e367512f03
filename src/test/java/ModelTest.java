import java.util.Random;

/** Long random runs, answered by MatchBook and by the model. */
public final class ModelTest {
    private static final Check check = new Check("ModelTest");
    private static final int CALLS = 512;

    /** What runs are about: everything (0); free persons; news behind weddings; open matches. */
    private static final int FREE = 1;
    private static final int LATE = 2;
    private static final int OPEN = 3;
    /** Two books in turn, by images. */
    private static final int TIMES = 4;

    private final Random random;
    private final MatchBook book = new MatchBook();
    private final Model model = new Model();
    private final int run;
    private final int wideness;
    private final int mode;
    private int calls = 0;

    private ModelTest(int run) {
        this.run = run;
        random = new Random(7919L * run + 3);
        wideness = run % 3;
        mode = run / 3 % 5;
    }

    public static void main(String[] args) {
        int runs = args.length > 0 ? Integer.parseInt(args[0]) : 300;
        for (int run = 0; run < runs && check.wrong() < 5; run++) {
            new ModelTest(run).play();
        }
        check.finish();
    }

    private int some(int n) {
        return random.nextInt(n);
    }

    /** Mostly 0 .. n-1, now and then beside it. */
    private int near(int n) {
        int luck = some(60);
        if (luck == 0) return -1;
        if (luck == 1) return n;
        if (luck == 2) return random.nextInt();
        return n <= 0 ? 0 : some(n);
    }

    private void call(String name, int... a) {
        if (calls >= CALLS) {
            return;
        }
        calls++;
        long got = ask(name, a);
        long want = isQuery(name) ? model.query(name, a) : model.call(name, a);
        StringBuilder text = new StringBuilder("run " + run + " call " + calls + " " + name + "(");
        for (int k = 0; k < a.length; k++) {
            text.append(k == 0 ? "" : ", ").append(a[k]);
        }
        check.due(text.append(")").toString(), got, want);
    }

    private static boolean isQuery(String name) {
        switch (name) {
            case "heard": case "kin": case "chain": case "tell": case "about": case "fault": case "read": case "may":
            case "liking": case "match": case "late": case "parts": case "best": case "bestFor": case "stable":
            case "ring": case "ringed": case "count":
                return true;
            default:
                return false;
        }
    }

    private static int bit(boolean is) {
        return is ? 1 : 0;
    }

    private long ask(String name, int[] a) {
        switch (name) {
            case "house": return book.house(a[0], a[1], a[2]);
            case "person": return book.person(a[0], a[1], a[2], a[3]);
            case "road": return bit(book.road(a[0], a[1], a[2]));
            case "feud": return bit(book.feud(a[0], a[1], a[2] != 0));
            case "harvest": return book.harvest(a[0], a[1]);
            case "parent": return book.parent(a[0], a[1], a[2]);
            case "heard": return book.heard(a[0], a[1]);
            case "die": return bit(book.die(a[0]));
            case "year": return book.year();
            case "kin": return book.kin(a[0], a[1], a[2], a[3]);
            case "chain": return book.chain(a[0], a[1], a[2], a[3], a[4]);
            case "tell": return book.tell(a[0], a[1]);
            case "about": return book.about(a[0], a[1]);
            case "feed": return book.feed(a[0], a[1], a[2], a[3], a[4]);
            case "end": return book.end(a[0]);
            case "text": return book.text(a[0]);
            case "fault": return book.fault(a[0]);
            case "read": return book.read(a[0], a[1], a[2], a[3]);
            case "may": return bit(book.may(a[0], a[1]));
            case "liking": return book.liking(a[0], a[1]);
            case "ask": return book.ask(a[0], a[1]);
            case "promise": return bit(book.promise(a[0]));
            case "wed": return bit(book.wed(a[0]));
            case "breaks": return bit(book.breaks(a[0], a[1] != 0));
            case "match": return book.match(a[0], a[1]);
            case "late": return book.late(a[0]);
            case "parts": return book.parts(a[0]);
            case "best": return book.best(a[0]);
            case "bestFor": return book.bestFor(a[0]);
            case "stable": return book.stable(a[0]);
            case "ring": return book.ring(a[0]);
            case "ringed": return book.ringed(a[0], a[1]);
            case "count": return book.count(a[0]);
            case "image": return bit(book.image(a[0]));
            case "again": return bit(book.again(a[0]));
            default: throw new IllegalStateException(name);
        }
    }

    private void play() {
        if (mode == TIMES) {
            call("image", 0);
            setUp();
            steps(60);
            call("image", 1);
            call("again", 0);
        }
        setUp();
        if (mode == TIMES) {
            steps(60);
            call("image", 2);
        }
        steps(CALLS);
    }

    private void steps(int n) {
        for (int k = 0; k < n && calls < CALLS && check.wrong() < 5; k++) {
            step();
        }
    }

    private void setUp() {
        int houses = 2 + some(7);
        for (int k = 0; k < houses; k++) {
            call("house", near(6), near(5), some(8) == 0 ? some(100002) : some(300));
        }
        for (int k = some(8); k > 0; k--) {
            call("road", near(5), near(5), some(11) - 1);
        }
        int persons = wideness == 0 ? 6 + some(6) : wideness == 1 ? 12 + some(9) : 20 + some(3);
        for (int k = 0; k < persons; k++) {
            newPerson();
        }
        for (int k = 0; k < 2 + some(8); k++) {
            newText();
        }
        for (int k = mode == LATE ? some(8) : some(30); k > 0; k--) {
            newParent();
        }
    }

    private void newPerson() {
        call("person", near(book.count(0)), near(2), near(8), book.count(3) - some(some(10) == 0 ? 90 : 60) + some(30) / 29);
    }

    /** Mostly of an older person, so that there are families. */
    private void newParent() {
        int a = near(book.count(1));
        int b = near(book.count(1));
        boolean wrongWay = book.tell(a, 3) < book.tell(b, 3) && some(20) != 0;
        int village = some(3) == 0 ? near(5) : near(2);
        if (wrongWay) call("parent", b, a, village);
        else call("parent", a, b, village);
    }

    /** Calls that the mode is about. */
    private void special() {
        int persons = book.count(1);
        int luck = some(10);
        if (mode == FREE) {
            if (luck < 4) askBest();
            else if (luck < 6) call("stable", near(persons));
            else if (luck < 7) call("ring", near(2));
            else if (luck < 8) call("ringed", near(4), near(3));
            else if (luck < 9) call("breaks", near(book.count(4)), 0);
            else call("feud", near(book.count(0)), near(book.count(0)), 1);
        } else if (mode == LATE) {
            if (luck < 2) newParent();
            else if (luck < 3) newRoad();
            else if (luck < 5) call("late", near(3));
            else if (luck < 6) call("count", 11);
            else if (luck < 8) call("match", aMatch(2), 8);
            else if (luck < 9) call("year");
            else call("wed", aMatch(1));
        } else if (mode == OPEN) {
            if (luck < 6) call("parts", near(3));
            else askSomeone();
        } else {
            if (luck < 1) call("again", 1 + some(2));
            else if (luck < 4) call("tell", near(persons), near(10));
            else if (luck < 5) call("about", near(book.count(0)), near(5));
            else if (luck < 7) call("match", near(book.count(4)), near(9));
            else if (luck < 8) call("kin", near(persons), near(persons), near(2), book.count(3));
            else if (luck < 9) call("late", near(2));
            else newParent();
        }
    }

    private void step() {
        int persons = book.count(1);
        int matches = book.count(4);
        int luck = some(100);
        if (mode != 0 && some(2) == 0) special();
        else if (luck < 3) newText();
        else if (luck < 5) call("year");
        else if (luck < 7) newRoad();
        else if (luck < 9) call("feud", near(book.count(0)), near(book.count(0)), some(4) == 0 ? 0 : 1);
        else if (luck < 10) call("harvest", near(book.count(0)), some(12) == 0 ? near(100001) : some(200));
        else if (luck < 14) newParent();
        else if (luck < 16) call("heard", near(book.count(2)), near(5));
        else if (luck < 17) call("die", near(persons));
        else if (luck < 20) call("kin", near(persons), near(persons), near(5), nearYear());
        else if (luck < 24) wholeChain();
        else if (luck < 27) call("tell", near(persons), near(10));
        else if (luck < 29) call("about", near(book.count(0)), near(5));
        else if (luck < 33) call("read", aPerson(0), aPerson(1), near(5), near(4));
        else if (luck < 35) call("may", aPerson(0), aPerson(1));
        else if (luck < 38) call("liking", near(persons), near(persons));
        else if (luck < 50) { if (mode != FREE || some(10) == 0) askSomeone(); }
        else if (luck < 56) call("promise", mode == OPEN && some(4) != 0 ? near(book.count(4)) : aMatch(0));
        else if (luck < 62) call("wed", aMatch(1));
        else if (luck < 65) call("breaks", near(matches), some(2));
        else if (luck < 71) call("match", near(matches), near(9));
        else if (luck < 73) call("late", near(3));
        else if (luck < 76) call("parts", near(4));
        else if (luck < 80) askBest();
        else if (luck < 84) call("stable", near(persons));
        else if (luck < 86) call("ring", near(2));
        else if (luck < 90) call("ringed", near(4), near(3));
        else if (luck < 94) call("count", near(12));
        else if (luck < 95) call("image", mode == TIMES ? 3 : near(3));
        else if (luck < 96) call("again", near(3));
        else if (luck < 97) call("fault", near(2));
        else if (luck < 98) newPerson();
        else if (luck < 99) call("house", near(6), near(5), some(500));
        else if (some(2) == 0) call("end", near(30));
        else call("feed", random.nextInt(), 0x6261723b, 0x20202020, 0x6261723b, random.nextInt());
    }

    /** Roads come, change and go while news are on their way. */
    private void newRoad() {
        call("road", near(5), near(5), some(3) == 0 ? -1 : some(12) - 2);
    }

    private int nearYear() {
        int luck = some(4);
        return luck == 0 ? near(301) : luck == 1 ? book.count(3) : Math.max(-1, book.count(3) + some(16) - 5);
    }

    private int aPerson(int kind) {
        for (int k = 0; k < 5; k++) {
            int p = near(book.count(1));
            if (book.tell(p, 1) == kind) return p;
        }
        return near(book.count(1));
    }

    private int aMatch(int stands) {
        for (int k = 0; k < 20; k++) {
            int m = near(book.count(4));
            if (book.match(m, 2) == stands) return m;
        }
        return near(book.count(4));
    }

    private void askSomeone() {
        int bride = aPerson(0);
        int groom = aPerson(1);
        for (int k = 0; k < 20 && book.tell(bride, 9) != 1; k++) bride = aPerson(0);
        for (int k = 0; k < 20 && book.tell(groom, 9) != 1; k++) groom = aPerson(1);
        call("ask", bride, groom);
    }

    private void wholeChain() {
        int a = near(book.count(1));
        int b = near(book.count(1));
        int village = near(5);
        int year = nearYear();
        for (int k = some(20) == 0 ? -1 : 0; k < 12; k++) {
            call("chain", a, b, village, year, k);
            if (book.chain(a, b, village, year, k) == -1) break;
        }
    }

    private void askBest() {
        if (some(3) == 0) call("best", near(3));
        else call("bestFor", near(book.count(1)));
    }

    private static final String[] SUBJECTS = {"clan", "home", "feud", "widow", "elder", "star", "kin", "age", "bride", "gap",
        "rich"};

    private String aTest() {
        int subject = some(SUBJECTS.length);
        if (some(4) == 0) subject = 6;
        String text = (some(3) == 0 ? "not " : "") + SUBJECTS[subject];
        if (subject < 5) return text;
        int most = subject == 5 ? 5 : subject == 6 ? 7 : subject == 10 ? 600 : 70;
        return text + blank() + "<>=".charAt(some(3)) + blank() + some(most);
    }

    private String blank() {
        return some(6) == 0 ? some(2) == 0 ? " " : "\n" : "";
    }

    private String aLine(boolean wish) {
        StringBuilder line = new StringBuilder(blank());
        int tests = some(5) == 0 ? 0 : 1 + some(3);
        if (some(60) == 0) tests = 4 + some(3);
        for (int k = 0; k < tests; k++) {
            line.append(k == 0 ? "if " : " and ").append(aTest());
        }
        if (tests > 0) line.append(blank()).append(":").append(blank());
        if (wish) {
            line.append(some(2) == 0 ? "more " : "less").append(some(20));
        } else {
            int act = some(6);
            // an act to bar that always holds would leave nothing to see
            if (act < 2 && (tests > 1 && mode < FREE || some(8) == 0)) line.append("bar");
            else if (act < 5) line.append("gift ").append(some(some(5) == 0 ? 9999 : 60));
            else line.append("back").append(blank()).append(some(30) == 0 ? 90 + some(30) : some(101));
        }
        return line.append(blank()).append(";").toString();
    }

    private void newText() {
        int whose = near(7);
        StringBuilder text = new StringBuilder();
        int lines = some(25) == 0 ? 14 + some(6) : some(6);
        if ((mode == LATE || mode == TIMES) && whose < 5) {
            if (some(3) == 0) text.append("if ").append(aTest()).append(" and kin<").append(2 + some(5)).append(":bar;");
            else text.append("if kin<").append(2 + some(5)).append(":bar;");
        }
        if (mode == OPEN && whose >= 5) {
            text.append("if star<2:more 9;if star=3:less 3;");
        }
        for (int k = 0; k < lines; k++) {
            text.append(lines > 10 ? some(8) == 0 ? "gift 1;" : whose < 5 ? "back 2;" : "less 1;" : aLine(whose >= 5));
        }
        if (some(5) == 0) spoil(text);
        if (text.length() > 480) text.setLength(480);
        feed(text.toString());
        call("text", whose);
        call("fault", 0);
        call("fault", 1);
    }

    private void spoil(StringBuilder text) {
        String odd = "if and not clan star kin : ; < > = 5 12345 0007 bar gift back more less ? A \t back 101; bar; more 3;";
        String[] words = odd.split(" ");
        for (int k = 1 + some(2); k > 0; k--) {
            int at = some(text.length() + 1);
            int luck = some(3);
            if (luck == 0 && at < text.length()) text.deleteCharAt(at);
            else if (luck == 1) text.insert(at, (char) some(256));
            else text.insert(at, words[some(words.length)]);
        }
    }

    private void feed(String text) {
        // Mostly the tape is empty; what another text left there would be seen.
        if (some(2) == 0) call("end", 0);
        for (int at = 0; at < text.length(); at += 20) {
            int[] five = new int[5];
            for (int k = 0; k < 20; k++) {
                int sign = at + k < text.length() ? text.charAt(at + k) & 255 : ' ';
                five[k / 4] = five[k / 4] << 8 | sign;
            }
            call("feed", five);
        }
        call("end", text.length());
    }
}

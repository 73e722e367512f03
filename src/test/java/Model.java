import java.util.ArrayDeque;
import java.util.ArrayList;
import java.util.Arrays;
import java.util.Collections;
import java.util.Comparator;
import java.util.HashMap;
import java.util.HashSet;
import java.util.List;
import java.util.Map;
import java.util.Set;
import java.util.TreeMap;
import java.util.TreeSet;
import java.util.function.Function;
import java.util.regex.Matcher;
import java.util.regex.Pattern;

/**
 * A second reading of the document, by plain search over lists and maps. An image is the list of the calls that
 * led to it; again() plays them anew.
 */
final class Model {
    private static final class House {
        int clan, village, coins;
    }

    private static final class Person {
        int id, house, kind, star, born;
        boolean alive = true, widow, wasWed;
        Integer spouse;
    }

    private static final class Tiding {
        int child, parent, village, year;
    }

    private static final class Test {
        boolean not;
        String subject;
        String sign;
        int number;
    }

    private static final class Line {
        List<Test> tests = new ArrayList<>();
        String act;
        int number;
    }

    private static final class Match {
        int bride, groom, stands, gift, back, paid, asked, since;
        Map<String, Integer> day;
        List<Line> hers, his;
    }

    private static final Set<String> FLAGS = Set.of("clan", "home", "feud", "widow", "elder");
    private static final Set<String> FACTS = Set.of("star", "kin", "age", "bride", "gap", "rich");

    private List<House> houses;
    private List<Person> persons;
    private List<Tiding> news;
    private List<Match> matches;
    private Map<Set<Integer>, Integer> roads;
    private Set<Set<Integer>> feuds;
    private List<List<Line>> texts;
    private StringBuilder tape;
    private int year;
    private int fault;
    private int place;
    private List<Object[]> told;
    private final Map<Integer, List<Object[]>> images = new HashMap<>();

    Model() {
        reset();
    }

    private void reset() {
        houses = new ArrayList<>();
        persons = new ArrayList<>();
        news = new ArrayList<>();
        matches = new ArrayList<>();
        roads = new HashMap<>();
        feuds = new HashSet<>();
        texts = new ArrayList<>();
        for (int k = 0; k < 7; k++) {
            texts.add(new ArrayList<>());
        }
        tape = new StringBuilder();
        year = 0;
        fault = 0;
        place = -1;
        told = new ArrayList<>();
    }

    long call(String name, int... a) {
        switch (name) {
            case "image":
                if (a[0] < 0 || a[0] > 2) return 0;
                images.put(a[0], new ArrayList<>(told));
                return 1;
            case "again":
                if (!images.containsKey(a[0])) return 0;
                List<Object[]> calls = images.get(a[0]);
                reset();
                for (Object[] call : calls) {
                    answer((String) call[0], (int[]) call[1]);
                    told.add(call);
                }
                return 1;
            default:
                told.add(new Object[] {name, a.clone()});
                return answer(name, a);
        }
    }

    /** What alters nothing need not be told again. */
    long query(String name, int... a) {
        return answer(name, a);
    }

    private long answer(String name, int[] a) {
        switch (name) {
            case "house": return house(a);
            case "person": return person(a);
            case "road": return road(a);
            case "feud": return feud(a);
            case "harvest": return harvest(a);
            case "parent": return parent(a);
            case "heard": return in(a[0], news) && among(a[1], 0, 4) ? heard(news.get(a[0]), a[1]) : -1;
            case "die": return die(a[0]);
            case "year": return year == 300 ? -1 : ++year;
            case "kin": return kinAsked(a) ? kin(a[0], a[1], a[2], a[3]) : -1;
            case "chain": return chain(a);
            case "tell": return tell(a);
            case "about": return about(a);
            case "feed": return feed(a);
            case "end":
                if (a[0] < 0 || a[0] > tape.length()) return -1;
                tape.setLength(a[0]);
                return a[0];
            case "text": return text(a[0]);
            case "fault": return a[0] == 0 ? fault : a[0] == 1 ? place : -1;
            case "read": return read(a);
            case "may": return couple(a[0], a[1]) && may(a[0], a[1]) ? 1 : 0;
            case "liking": return in(a[0], persons) && in(a[1], persons)
                    && persons.get(a[0]).kind != persons.get(a[1]).kind ? liking(a[0], a[1]) : -1000000;
            case "ask": return ask(a);
            case "promise": return promise(a[0]);
            case "wed": return wed(a[0]);
            case "breaks": return breaks(a[0], a[1] != 0);
            case "match": return match(a);
            case "late": return nth(lates(), a[0]);
            case "parts": return nth(parting(), a[0]);
            case "best": return best(a[0]);
            case "bestFor": return partner(bestRow(), a[0]);
            case "stable": return partner(stableRow(), a[0]);
            case "ring": return ring(a[0]);
            case "ringed": return ringed(a);
            case "count": return count(a[0]);
            default: throw new IllegalStateException(name);
        }
    }

    private static boolean in(int k, List<?> list) {
        return k >= 0 && k < list.size();
    }

    private static long nth(List<Integer> list, int k) {
        return in(k, list) ? list.get(k) : -1;
    }

    private static boolean among(int n, int least, int most) {
        return least <= n && n <= most;
    }

    private long house(int[] a) {
        if (houses.size() == 8 || !among(a[0], 0, 5) || !among(a[1], 0, 4) || !among(a[2], 0, 100000)) return -1;
        House h = new House();
        h.clan = a[0];
        h.village = a[1];
        h.coins = a[2];
        houses.add(h);
        return houses.size() - 1;
    }

    private long person(int[] a) {
        if (persons.size() == 20 || !in(a[0], houses) || !among(a[1], 0, 1) || !among(a[2], 0, 7)
                || !among(a[3], -80, year)) return -1;
        Person p = new Person();
        p.id = persons.size();
        p.house = a[0];
        p.kind = a[1];
        p.star = a[2];
        p.born = a[3];
        persons.add(p);
        return p.id;
    }

    private long road(int[] a) {
        if (!among(a[0], 0, 4) || !among(a[1], 0, 4) || a[0] == a[1] || !among(a[2], -1, 9)) return 0;
        if (a[2] == -1) roads.remove(Set.of(a[0], a[1]));
        else roads.put(Set.of(a[0], a[1]), a[2]);
        return 1;
    }

    private long feud(int[] a) {
        if (!in(a[0], houses) || !in(a[1], houses) || a[0] == a[1]) return 0;
        Set<Integer> both = Set.of(a[0], a[1]);
        return (a[2] != 0 ? feuds.add(both) : feuds.remove(both)) ? 1 : 0;
    }

    private long harvest(int[] a) {
        if (!in(a[0], houses) || !among(a[1], 1, 100000)) return -1;
        return houses.get(a[0]).coins += a[1];
    }

    private long parent(int[] a) {
        if (news.size() == 60 || !in(a[0], persons) || !in(a[1], persons) || !among(a[2], 0, 4)) return -1;
        if (persons.get(a[1]).born >= persons.get(a[0]).born) return -1;
        Tiding t = new Tiding();
        t.child = a[0];
        t.parent = a[1];
        t.village = a[2];
        t.year = year;
        news.add(t);
        return news.size() - 1;
    }

    /** The year by the roads as they are at the moment of the question; -1: never. */
    private int heard(Tiding t, int village) {
        int way = fewest(t.village, village, new HashSet<>());
        return way == -1 ? -1 : t.year + way;
    }

    /** The fewest years from one village to another, by trying all ways; -1: there is none. */
    private int fewest(int from, int to, Set<Integer> seen) {
        if (from == to) return 0;
        int least = -1;
        seen.add(from);
        for (int next = 0; next < 5; next++) {
            if (!seen.contains(next) && roads.containsKey(Set.of(from, next))) {
                int rest = fewest(next, to, seen);
                int whole = roads.get(Set.of(from, next)) + rest;
                if (rest != -1 && (least == -1 || whole < least)) least = whole;
            }
        }
        seen.remove(from);
        return least;
    }

    private long die(int p) {
        if (!in(p, persons) || !persons.get(p).alive) return 0;
        Person dead = persons.get(p);
        dead.alive = false;
        if (dead.spouse != null) {
            Person left = persons.get(dead.spouse);
            left.spouse = null;
            dead.spouse = null;
            if (left.kind == 0) left.widow = true;
        }
        for (Match m : matches) {
            if (m.stands < 2 && (m.bride == p || m.groom == p)) {
                m.stands = 4;
                m.since = year;
            }
        }
        return 1;
    }

    private boolean kinAsked(int[] a) {
        return in(a[0], persons) && in(a[1], persons) && among(a[2], 0, 4) && among(a[3], 0, 300);
    }

    private List<Integer> parentsOf(int child, int village, int by) {
        Integer mother = null;
        Integer father = null;
        for (Tiding t : news) {
            int when = t.child == child ? heard(t, village) : -1;
            if (when != -1 && when <= by) {
                if (persons.get(t.parent).kind == 0) mother = t.parent;
                else father = t.parent;
            }
        }
        List<Integer> both = new ArrayList<>();
        if (mother != null) both.add(mother);
        if (father != null) both.add(father);
        return both;
    }

    private Map<Integer, Integer> forebears(int p, Function<Integer, List<Integer>> parents) {
        Map<Integer, Integer> steps = new TreeMap<>();
        Set<Integer> level = new TreeSet<>(Set.of(p));
        for (int step = 0; !level.isEmpty(); step++) {
            Set<Integer> above = new TreeSet<>();
            for (int q : level) {
                if (steps.putIfAbsent(q, step) == null) above.addAll(parents.apply(q));
            }
            level = above;
        }
        return steps;
    }

    private Function<Integer, List<Integer>> heardParents(int village, int by) {
        Map<Integer, List<Integer>> table = new HashMap<>();
        for (Person p : persons) {
            table.put(p.id, parentsOf(p.id, village, by));
        }
        return table::get;
    }

    private int kin(int a, int b, int village, int by) {
        Function<Integer, List<Integer>> parents = heardParents(village, by);
        Map<Integer, Integer> ofA = forebears(a, parents);
        Map<Integer, Integer> ofB = forebears(b, parents);
        int least = 99;
        for (int f : ofA.keySet()) {
            if (ofB.containsKey(f)) least = Math.min(least, ofA.get(f) + ofB.get(f));
        }
        return least;
    }

    /** All ways up from p to f with just so many steps. */
    private void ways(List<Integer> soFar, int f, int steps, Function<Integer, List<Integer>> parents,
            List<List<Integer>> found) {
        int at = soFar.get(soFar.size() - 1);
        if (steps == 0) {
            if (at == f) found.add(new ArrayList<>(soFar));
            return;
        }
        for (int q : parents.apply(at)) {
            soFar.add(q);
            ways(soFar, f, steps - 1, parents, found);
            soFar.remove(soFar.size() - 1);
        }
    }

    private static int byRow(List<Integer> a, List<Integer> b) {
        for (int k = 0; k < Math.min(a.size(), b.size()); k++) {
            int c = Integer.compare(a.get(k), b.get(k));
            if (c != 0) return c;
        }
        return Integer.compare(a.size(), b.size());
    }

    private long chain(int[] a) {
        if (!kinAsked(a)) return -1;
        Function<Integer, List<Integer>> parents = heardParents(a[2], a[3]);
        Map<Integer, Integer> ofA = forebears(a[0], parents);
        Map<Integer, Integer> ofB = forebears(a[1], parents);
        List<int[]> choices = new ArrayList<>();
        for (int f : ofA.keySet()) {
            if (ofB.containsKey(f)) choices.add(new int[] {ofA.get(f) + ofB.get(f), ofA.get(f), f});
        }
        if (choices.isEmpty()) return -1;
        int[] choice = Collections.min(choices, Arrays::compare);
        List<List<Integer>> ups = new ArrayList<>();
        List<List<Integer>> downs = new ArrayList<>();
        ways(new ArrayList<>(List.of(a[0])), choice[2], choice[1], parents, ups);
        ways(new ArrayList<>(List.of(a[1])), choice[2], choice[0] - choice[1], parents, downs);
        List<List<Integer>> rows = new ArrayList<>();
        for (List<Integer> down : downs) {
            Collections.reverse(down);
        }
        List<Integer> row = new ArrayList<>(Collections.min(ups, Model::byRow));
        List<Integer> down = Collections.min(downs, Model::byRow);
        row.addAll(down.subList(1, down.size()));
        return nth(row, a[4]);
    }

    private int openMatch(int p) {
        for (int m = 0; m < matches.size(); m++) {
            if (matches.get(m).stands < 2 && (matches.get(m).bride == p || matches.get(m).groom == p)) return m;
        }
        return -1;
    }

    private boolean free(int p) {
        return persons.get(p).alive && persons.get(p).spouse == null && openMatch(p) == -1;
    }

    private long tell(int[] a) {
        if (!in(a[0], persons) || !among(a[1], 0, 9)) return -100;
        Person p = persons.get(a[0]);
        int[] all = {p.house, p.kind, p.star, p.born, year - p.born, p.alive ? 1 : 0, p.spouse == null ? -1 : p.spouse,
            p.widow ? 1 : 0, openMatch(p.id), free(p.id) ? 1 : 0};
        return all[a[1]];
    }

    private long about(int[] a) {
        if (!in(a[0], houses) || !among(a[1], 0, 4)) return -1;
        House h = houses.get(a[0]);
        int bits = 0;
        for (int k = 0; k < 8; k++) {
            if (k != a[0] && feuds.contains(Set.of(a[0], k))) bits += 1 << k;
        }
        long living = persons.stream().filter(p -> p.alive && p.house == a[0]).count();
        return new long[] {h.clan, h.village, h.coins, bits, living}[a[1]];
    }

    private long feed(int[] a) {
        if (tape.length() + 20 > 500) return -1;
        for (int n : a) {
            tape.append((char) (n >>> 24)).append((char) (n >>> 16 & 255));
            tape.append((char) (n >>> 8 & 255)).append((char) (n & 255));
        }
        return tape.length();
    }

    private static final Pattern TOKEN = Pattern.compile("[a-z]+|(?<![0-9])[0-9]{1,4}(?![0-9])|[:;<>=]");

    /** By states: what may come next, token by token. */
    private long text(int whose) {
        fault = 0;
        place = -1;
        String all = tape.toString();
        tape.setLength(0);
        if (!among(whose, 0, 6)) return -2;
        Set<String> acts = whose < 5 ? Set.of("bar", "gift", "back") : Set.of("more", "less");
        List<Line> lines = new ArrayList<>();
        List<int[]> later = new ArrayList<>();
        String state = "line";
        Line line = null;
        Test test = null;
        int at = 0;
        while (true) {
            while (at < all.length() && (all.charAt(at) == ' ' || all.charAt(at) == '\n')) at++;
            if (at == all.length()) break;
            Matcher m = TOKEN.matcher(all);
            m.region(at, all.length());
            m.useTransparentBounds(true);
            String token = m.lookingAt() ? m.group() : "?";
            boolean number = Character.isDigit(token.charAt(0));
            String next = null;
            if (state.equals("line") && (token.equals("if") || acts.contains(token))) {
                line = new Line();
                lines.add(line);
                if (lines.size() == 17) later.add(new int[] {at, 3});
            }
            if (state.equals("test") || state.equals("line") && token.equals("if")) {
                if (state.equals("test") && (token.equals("not") || FLAGS.contains(token) || FACTS.contains(token))) {
                    if (line.tests.size() == 4) later.add(new int[] {at, 3});
                    test = new Test();
                    line.tests.add(test);
                }
            }
            switch (state) {
                case "line":
                    if (token.equals("if")) {
                        next = "test";
                        break;
                    }
                    // as behind a colon
                case "act":
                    if (acts.contains(token)) {
                        line.act = token;
                        next = token.equals("bar") ? "semicolon" : "number";
                    }
                    break;
                case "test":
                    if (token.equals("not")) {
                        test.not = true;
                        next = "subject";
                        break;
                    }
                    // as behind not
                case "subject":
                    test = line.tests.isEmpty() ? new Test() : line.tests.get(line.tests.size() - 1);
                    test.subject = token;
                    next = FLAGS.contains(token) ? "and" : FACTS.contains(token) ? "sign" : null;
                    break;
                case "sign":
                    test.sign = token;
                    next = token.equals("<") || token.equals(">") || token.equals("=") ? "bound" : null;
                    break;
                case "bound":
                    if (number) {
                        test.number = Integer.parseInt(token);
                        next = "and";
                    }
                    break;
                case "and":
                    next = token.equals("and") ? "test" : token.equals(":") ? "act" : null;
                    break;
                case "number":
                    if (number) {
                        line.number = Integer.parseInt(token);
                        if (line.act.equals("back") && line.number > 100) later.add(new int[] {at, 2});
                        next = "semicolon";
                    }
                    break;
                default:
                    next = token.equals(";") ? "line" : null;
                    break;
            }
            if (next == null) {
                fault = 1;
                place = at;
                return -1;
            }
            state = next;
            at += token.length();
        }
        if (!state.equals("line")) {
            fault = 1;
            place = all.length();
            return -1;
        }
        if (!later.isEmpty()) {
            int[] first = Collections.min(later, Comparator.comparingInt(f -> f[0]));
            fault = first[1];
            place = first[0];
            return -1;
        }
        texts.set(whose, lines);
        return lines.size();
    }

    private boolean couple(int bride, int groom) {
        return in(bride, persons) && in(groom, persons) && persons.get(bride).kind == 0 && persons.get(groom).kind == 1;
    }

    private Map<String, Integer> facts(int bride, int groom) {
        Person b = persons.get(bride);
        Person g = persons.get(groom);
        House hers = houses.get(b.house);
        House his = houses.get(g.house);
        Map<String, Integer> f = new HashMap<>();
        f.put("clan", hers.clan == his.clan ? 1 : 0);
        f.put("home", hers.village == his.village ? 1 : 0);
        f.put("feud", b.house != g.house && feuds.contains(Set.of(b.house, g.house)) ? 1 : 0);
        f.put("widow", b.widow ? 1 : 0);
        f.put("elder", persons.stream().anyMatch(o -> o != b && o.kind == 0 && o.house == b.house && o.alive && !o.wasWed
                && (o.born < b.born || o.born == b.born && o.id < b.id)) ? 1 : 0);
        int right = Math.floorMod(b.star - g.star, 8);
        int left = Math.floorMod(g.star - b.star, 8);
        f.put("star", Math.min(left, right));
        f.put("age", year - g.born);
        f.put("bride", year - b.born);
        f.put("gap", Math.abs(b.born - g.born));
        f.put("rich", his.coins);
        return f;
    }

    private static boolean holds(Line line, Map<String, Integer> facts) {
        for (Test t : line.tests) {
            int n = facts.get(t.subject);
            boolean is = t.sign == null ? n == 1 : t.sign.equals("<") ? n < t.number
                    : t.sign.equals(">") ? n > t.number : n == t.number;
            if (is == t.not) return false;
        }
        return true;
    }

    /** Barred, why, gift, back. */
    private int[] readBy(List<Line> text, Map<String, Integer> facts) {
        int[] out = {0, -1, 0, 0};
        for (int k = text.size() - 1; k >= 0; k--) {
            Line line = text.get(k);
            if (holds(line, facts)) {
                if (line.act.equals("bar")) {
                    out[0] = 1;
                    out[1] = k;
                } else if (line.act.equals("gift")) {
                    out[2] += line.number;
                }
            }
        }
        for (Line line : text) {
            if (line.act.equals("back") && holds(line, facts)) out[3] = line.number;
        }
        return out;
    }

    private int[] readIn(int bride, int groom, int village) {
        Map<String, Integer> f = facts(bride, groom);
        f.put("kin", kin(bride, groom, village, year));
        return readBy(texts.get(village), f);
    }

    private long read(int[] a) {
        if (!couple(a[0], a[1]) || !among(a[2], 0, 4) || !among(a[3], 0, 3)) return -100;
        return readIn(a[0], a[1], a[2])[a[3]];
    }

    private int villageOf(int p) {
        return houses.get(persons.get(p).house).village;
    }

    private boolean may(int bride, int groom) {
        return persons.get(bride).house != persons.get(groom).house
                && readIn(bride, groom, villageOf(bride))[0] == 0 && readIn(bride, groom, villageOf(groom))[0] == 0;
    }

    private int gift(int bride, int groom) {
        return Math.max(readIn(bride, groom, villageOf(bride))[2], readIn(bride, groom, villageOf(groom))[2]);
    }

    private int liking(int p, int other) {
        int kind = persons.get(p).kind;
        int bride = kind == 0 ? p : other;
        int groom = kind == 0 ? other : p;
        Map<String, Integer> f = facts(bride, groom);
        f.put("rich", houses.get(persons.get(other).house).coins);
        f.put("kin", kin(p, other, villageOf(p), year));
        int sum = 0;
        for (Line line : texts.get(5 + kind)) {
            if (holds(line, f)) sum += line.act.equals("more") ? line.number : -line.number;
        }
        return sum;
    }

    private long ask(int[] a) {
        if (matches.size() == 30 || !couple(a[0], a[1]) || !free(a[0]) || !free(a[1]) || !may(a[0], a[1])) return -1;
        Match m = new Match();
        m.bride = a[0];
        m.groom = a[1];
        m.gift = gift(a[0], a[1]);
        m.back = readIn(a[0], a[1], villageOf(a[0]))[3];
        m.asked = year;
        m.since = year;
        matches.add(m);
        return matches.size() - 1;
    }

    private House hers(Match m) {
        return houses.get(persons.get(m.bride).house);
    }

    private House his(Match m) {
        return houses.get(persons.get(m.groom).house);
    }

    private long promise(int k) {
        if (!in(k, matches) || matches.get(k).stands != 0) return 0;
        Match m = matches.get(k);
        int half = m.gift / 2;
        if (his(m).coins < half) return 0;
        his(m).coins -= half;
        hers(m).coins += half;
        m.paid = half;
        m.stands = 1;
        m.since = year;
        return 1;
    }

    private long wed(int k) {
        if (!in(k, matches) || matches.get(k).stands != 1) return 0;
        Match m = matches.get(k);
        int rest = m.gift - m.gift / 2;
        if (!may(m.bride, m.groom) || his(m).coins < rest) return 0;
        m.day = facts(m.bride, m.groom);
        m.hers = texts.get(villageOf(m.bride));
        m.his = texts.get(villageOf(m.groom));
        his(m).coins -= rest;
        hers(m).coins += rest;
        m.paid = m.gift;
        m.stands = 2;
        m.since = year;
        feuds.remove(Set.of(persons.get(m.bride).house, persons.get(m.groom).house));
        Person bride = persons.get(m.bride);
        Person groom = persons.get(m.groom);
        bride.spouse = m.groom;
        groom.spouse = m.bride;
        bride.widow = false;
        bride.wasWed = true;
        return 1;
    }

    private long breaks(int k, boolean bySide) {
        if (!in(k, matches) || matches.get(k).stands > 1) return 0;
        Match m = matches.get(k);
        if (bySide && m.stands == 1) {
            int sum = m.paid + m.paid * m.back / 100;
            if (hers(m).coins < sum) return 0;
            hers(m).coins -= sum;
            his(m).coins += sum;
            m.paid = 0;
        }
        m.stands = 3;
        m.since = year;
        return 1;
    }

    private boolean isLate(Match m) {
        if (m.stands != 2) return false;
        Map<String, Integer> f = new HashMap<>(m.day);
        f.put("kin", kin(m.bride, m.groom, villageOf(m.bride), year));
        if (readBy(m.hers, f)[0] == 1) return true;
        f.put("kin", kin(m.bride, m.groom, villageOf(m.groom), year));
        return readBy(m.his, f)[0] == 1;
    }

    private List<Integer> lates() {
        List<Integer> out = new ArrayList<>();
        for (int k = 0; k < matches.size(); k++) {
            if (isLate(matches.get(k))) out.add(k);
        }
        return out;
    }

    private long match(int[] a) {
        if (!in(a[0], matches) || !among(a[1], 0, 8)) return -1;
        Match m = matches.get(a[0]);
        int[] all = {m.bride, m.groom, m.stands, m.gift, m.back, m.paid, m.asked, m.since, isLate(m) ? 1 : 0};
        return all[a[1]];
    }

    private List<Integer> parting() {
        List<Integer> out = new ArrayList<>();
        for (Match m : matches) {
            for (Match o : matches) {
                if (m != o && m.stands < 2 && o.stands < 2 && may(m.bride, o.groom)
                        && liking(m.bride, o.groom) > liking(m.bride, m.groom)
                        && liking(o.groom, m.bride) > liking(o.groom, o.bride)) {
                    out.add(100 * m.bride + o.groom);
                }
            }
        }
        Collections.sort(out);
        return out;
    }

    private List<Integer> firstFree(int kind) {
        List<Integer> out = new ArrayList<>();
        for (Person p : persons) {
            if (p.kind == kind && free(p.id) && out.size() < 8) out.add(p.id);
        }
        return out;
    }

    /** By brides: groom, or 99. */
    private Map<Integer, Integer> bestRow() {
        List<Integer> brides = firstFree(0);
        List<Integer> grooms = firstFree(1);
        int[][] cost = new int[20][20];
        boolean[][] may = new boolean[20][20];
        boolean[][] feud = new boolean[20][20];
        for (int b : brides) {
            for (int g : grooms) {
                may[b][g] = may(b, g);
                if (may[b][g]) {
                    cost[b][g] = gift(b, g);
                    feud[b][g] = feuds.contains(Set.of(persons.get(b).house, persons.get(g).house));
                }
            }
        }
        whole = bestFrom(brides, grooms, 0, Set.of(), new Object[] {may, feud, cost}, new HashMap<>());
        Map<Integer, Integer> out = new TreeMap<>();
        for (int k = 0; k < brides.size(); k++) {
            out.put(brides.get(k), whole[3 + k]);
        }
        return out;
    }

    /** The best way as a row that is least: weddings and feuds (both below 0), gifts, and the grooms by brides. */
    private int[] whole;

    /** Of the brides from one on, with the grooms that are left: what is best for them does not hang on who took the rest. */
    private int[] bestFrom(List<Integer> brides, List<Integer> grooms, int at, Set<Integer> taken, Object[] tables,
            Map<List<Object>, int[]> known) {
        if (at == brides.size()) return new int[3];
        List<Object> key = List.of(at, taken);
        if (known.containsKey(key)) return known.get(key);
        int b = brides.get(at);
        int[] least = joined(99, new int[3], bestFrom(brides, grooms, at + 1, taken, tables, known));
        for (int g : grooms) {
            if (!taken.contains(g) && ((boolean[][]) tables[0])[b][g]) {
                Set<Integer> then = new HashSet<>(taken);
                then.add(g);
                int[] adds = {-1, ((boolean[][]) tables[1])[b][g] ? -1 : 0, ((int[][]) tables[2])[b][g]};
                int[] way = joined(g, adds, bestFrom(brides, grooms, at + 1, then, tables, known));
                if (Arrays.compare(way, least) < 0) least = way;
            }
        }
        known.put(key, least);
        return least;
    }

    private static int[] joined(int groom, int[] adds, int[] rest) {
        int[] row = new int[rest.length + 1];
        for (int k = 0; k < 3; k++) {
            row[k] = adds[k] + rest[k];
        }
        row[3] = groom;
        System.arraycopy(rest, 3, row, 4, rest.length - 3);
        return row;
    }

    private long best(int what) {
        if (!among(what, 0, 2)) return -1;
        bestRow();
        return new int[] {-whole[0], -whole[1], whole[2]}[what];
    }

    private long partner(Map<Integer, Integer> row, int p) {
        for (Map.Entry<Integer, Integer> e : row.entrySet()) {
            if (e.getValue() != 99) {
                if (e.getKey() == p) return e.getValue();
                if (e.getValue() == p) return e.getKey();
            }
        }
        return -1;
    }

    private Map<Integer, Integer> stableRow() {
        List<Integer> brides = firstFree(0);
        Map<Integer, Integer> keeps = new TreeMap<>();
        Map<Integer, ArrayDeque<Integer>> lists = new HashMap<>();
        ArrayDeque<Integer> waiting = new ArrayDeque<>();
        for (int g : firstFree(1)) {
            List<Integer> mine = new ArrayList<>();
            for (int b : brides) {
                if (may(b, g)) mine.add(b);
            }
            mine.sort(Comparator.comparingInt((Integer b) -> -liking(g, b)).thenComparingInt(b -> b));
            lists.put(g, new ArrayDeque<>(mine));
            waiting.push(g);
        }
        while (!waiting.isEmpty()) {
            int g = waiting.pop();
            Integer b = lists.get(g).poll();
            if (b == null) continue;
            Integer kept = keeps.get(b);
            if (kept == null) {
                keeps.put(b, g);
            } else {
                int mine = liking(b, g);
                int theirs = liking(b, kept);
                boolean better = mine > theirs || mine == theirs && g < kept;
                if (better) keeps.put(b, g);
                waiting.push(better ? kept : g);
            }
        }
        return keeps;
    }

    /** Rows of house, bride, groom; null without. */
    private List<int[]> theRing() {
        List<Integer> brides = firstFree(0);
        List<Integer> grooms = firstFree(1);
        int[][][] link = new int[8][8][];
        for (int b : brides) {
            for (int g : grooms) {
                if (may(b, g)) {
                    int[] offer = {-gift(b, g), b, g};
                    int from = persons.get(b).house;
                    int to = persons.get(g).house;
                    if (link[from][to] == null || Arrays.compare(offer, link[from][to]) < 0) link[from][to] = offer;
                }
            }
        }
        int[] bestKey = null;
        List<int[]> found = null;
        int n = houses.size();
        for (int code = 0; code < n * n * n * n * 3; code++) {
            int size = 2 + code % 3;
            int rest = code / 3;
            int[] row = new int[size];
            Set<Integer> all = new HashSet<>();
            for (int k = 0; k < size; k++) {
                row[k] = rest % n;
                rest /= n;
                all.add(row[k]);
            }
            if (rest != 0 || all.size() < size || Collections.min(all) != row[0]) continue;
            int gifts = 0;
            List<int[]> rows = new ArrayList<>();
            for (int k = 0; k < size && rows != null; k++) {
                int[] l = link[row[k]][row[(k + 1) % size]];
                if (l == null) {
                    rows = null;
                } else {
                    gifts += l[0];
                    rows.add(new int[] {row[k], l[1], l[2]});
                }
            }
            if (rows == null) continue;
            int[] key = new int[2 + size];
            key[0] = gifts;
            key[1] = size;
            System.arraycopy(row, 0, key, 2, size);
            if (bestKey == null || Arrays.compare(key, bestKey) < 0) {
                bestKey = key;
                found = rows;
            }
        }
        ringGifts = bestKey == null ? 0 : -bestKey[0];
        return found;
    }

    private int ringGifts;

    private long ring(int what) {
        List<int[]> rows = theRing();
        if (rows == null || !among(what, 0, 1)) return -1;
        return what == 0 ? rows.size() : ringGifts;
    }

    private long ringed(int[] a) {
        List<int[]> rows = theRing();
        if (rows == null || !in(a[0], rows) || !among(a[1], 0, 2)) return -1;
        return rows.get(a[0])[a[1]];
    }

    private long count(int what) {
        switch (what) {
            case 0: return houses.size();
            case 1: return persons.size();
            case 2: return news.size();
            case 3: return year;
            case 4: return matches.size();
            case 5: return matches.stream().filter(m -> m.stands < 2).count();
            case 6: return matches.stream().filter(m -> m.stands == 2).count();
            case 7: return feuds.size();
            case 8: return houses.stream().mapToInt(h -> h.coins).sum();
            case 9: return persons.stream().filter(p -> p.kind == 0 && free(p.id)).count();
            case 10: return persons.stream().filter(p -> p.kind == 1 && free(p.id)).count();
            case 11: return lates().size();
            default: return -100;
        }
    }
}

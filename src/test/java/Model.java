import java.util.ArrayDeque;
import java.util.ArrayList;
import java.util.Arrays;
import java.util.HashMap;
import java.util.HashSet;
import java.util.List;
import java.util.Map;
import java.util.NoSuchElementException;
import java.util.Set;

/** The document once more, told as plainly as can be and as slowly as it likes; with the face of the class. */
final class Model {
    private static final List<String> RESERVED = List.of("law", "begins", "scute", "house", "family", "field", "weed",
            "isle", "moult", "young");

    /** A fault of the text, with its place. */
    private static final class Fault extends RuntimeException {
        private static final long serialVersionUID = 1L;
        final int number;
        final int place;

        Fault(int number, int place) {
            this.number = number;
            this.place = place;
        }
    }

    private record Token(char kind, String text, int place) {
    }

    private static final class Beast {
        int[] law;
        int[] begins;
        final List<int[]> scutes = new ArrayList<>();
        final List<int[]> houses = new ArrayList<>();
        final List<int[]> families = new ArrayList<>();
        final List<int[]> fields = new ArrayList<>();
        final List<int[]> weeds = new ArrayList<>();
        final List<int[]> isles = new ArrayList<>();
        final List<int[]> partings = new ArrayList<>();
        final Map<String, Integer> names = new HashMap<>();
    }

    private static final class Now implements Cloneable {
        int day;
        int seed;
        int x;
        int y;
        int heading;
        int hunger;
        int coins;
        int dives;
        int pleased;
        Set<Integer> bought = new HashSet<>();
        Set<Integer> claimed = new HashSet<>();
        Set<Integer> gone = new HashSet<>();
        Set<Integer> tied = new HashSet<>();
        int[] houseFate;
        int[] familyFate;
        int[] familyOn;
        int[] barnacles;
        List<int[]> log = new ArrayList<>();

        Now copy() {
            Now n = new Now();
            n.day = day;
            n.seed = seed;
            n.x = x;
            n.y = y;
            n.heading = heading;
            n.hunger = hunger;
            n.coins = coins;
            n.dives = dives;
            n.pleased = pleased;
            n.bought = new HashSet<>(bought);
            n.claimed = new HashSet<>(claimed);
            n.gone = new HashSet<>(gone);
            n.tied = new HashSet<>(tied);
            n.houseFate = houseFate.clone();
            n.familyFate = familyFate.clone();
            n.familyOn = familyOn.clone();
            n.barnacles = barnacles.clone();
            n.log = new ArrayList<>(log);
            return n;
        }
    }

    private final StringBuilder tape = new StringBuilder();
    private Beast b;
    private Now now;
    private int fault;
    private int place;
    private int trouble;
    private final List<Now> images = new ArrayList<>();
    private final ArrayDeque<Now> acts = new ArrayDeque<>();
    private final List<int[]> sightings = new ArrayList<>();

    // ---- the text

    private static List<Token> tokens(String text) {
        List<Token> all = new ArrayList<>();
        int i = 0;
        while (i < text.length()) {
            char c = text.charAt(i);
            int j = i;
            if (c == ' ') {
                i++;
                continue;
            }
            if (c >= 'a' && c <= 'z') {
                while (j < text.length() && text.charAt(j) >= 'a' && text.charAt(j) <= 'z') j++;
                all.add(new Token(j - i > 8 ? '?' : 'w', text.substring(i, j), i));
            } else if (c >= '0' && c <= '9') {
                while (j < text.length() && text.charAt(j) >= '0' && text.charAt(j) <= '9') j++;
                all.add(new Token(j - i > 3 ? '?' : '#', text.substring(i, j), i));
            } else {
                j = i + 1;
                all.add(new Token(c == ',' || c == ';' ? c : '?', text.substring(i, j), i));
            }
            i = j;
        }
        all.add(new Token('$', "", text.length()));
        return all;
    }

    private static int whole(Token t, int low, int high) {
        if (t.kind != '#') throw new Fault(1, t.place);
        int v = Integer.parseInt(t.text);
        if (v < low || v > high) throw new Fault(4, t.place);
        return v;
    }

    private static final String[] FORMS = {
        "keel 0-9 mid 0-9 feels 1-99 dives 1-30 calm 0-99 hungry 1-30",
        "at 0-9 , 0-9 heads 0-7",
        "NAME at 0-9 , 0-9 holds 1-99",
        "NAME on SCUTE weighs 1-30 ties 1-60 worth 1-99",
        "NAME on SCUTE weighs 1-30",
        "on SCUTE itch 1-9",
        "at 0-9 , 0-9",
        "NAME at 0-9 , 0-9 from 1-99 to 1-99 buys 1-99",
        "SCUTE day 1-99",
        "SCUTE day 1-99",
    };

    private static Beast parse(String text) {
        Beast b = new Beast();
        List<Token> all = tokens(text);
        int at = 0;
        while (true) {
            Token first = all.get(at);
            int sort = RESERVED.indexOf(first.text);
            if (first.kind != 'w' || sort < 0) throw new Fault(1, first.place);
            at = line(b, all, at + 1, sort, first.place);
            Token behind = all.get(at);
            if (behind.kind == '$') break;
            if (behind.kind != ';') throw new Fault(1, behind.place);
            at++;
        }
        if (b.law == null || b.begins == null || b.scutes.isEmpty()) throw new Fault(6, text.length());
        return b;
    }

    private static int line(Beast b, List<Token> all, int from, int sort, int place) {
        List<List<int[]>> lists = Arrays.asList(null, null, b.scutes, b.houses, b.families, b.fields, b.weeds, b.isles,
                b.partings, b.partings);
        int[] room = {0, 0, 8, 6, 4, 4, 4, 4, 3, 3};
        if (sort == 0 && b.law != null || sort == 1 && b.begins != null) throw new Fault(3, place);
        if (sort > 1 && lists.get(sort).size() == room[sort]) throw new Fault(5, place);
        List<Integer> values = new ArrayList<>();
        int at = from;
        for (String part : FORMS[sort].split(" ")) {
            Token t = all.get(at++);
            boolean isName = t.kind == 'w' && !RESERVED.contains(t.text);
            if (part.equals("NAME")) {
                if (!isName) throw new Fault(1, t.place);
                if (b.names.containsKey(t.text)) throw new Fault(3, t.place);
                b.names.put(t.text, sort == 2 ? b.scutes.size() : -1);
            } else if (part.equals("SCUTE")) {
                if (!isName) throw new Fault(1, t.place);
                int scute = b.names.getOrDefault(t.text, -1);
                if (scute < 0) throw new Fault(2, t.place);
                if (sort >= 8) {
                    for (int[] p : b.partings) if (p[0] == scute) throw new Fault(3, t.place);
                }
                values.add(scute);
            } else if (part.contains("-")) {
                String[] bounds = part.split("-");
                int low = Integer.parseInt(bounds[0]);
                if (sort == 7 && values.size() == 3) low = values.get(2);
                values.add(whole(t, low, Integer.parseInt(bounds[1])));
            } else if (!t.text.equals(part) || t.kind == '?') {
                throw new Fault(1, t.place);
            }
        }
        if (sort >= 8) values.add(sort - 8);
        int[] row = values.stream().mapToInt(Integer::intValue).toArray();
        if (sort == 0) b.law = row;
        else if (sort == 1) b.begins = row;
        else lists.get(sort).add(row);
        return at;
    }

    private int refuse(int number, int answer) {
        trouble = number;
        return answer;
    }

    private boolean refuse(int number) {
        trouble = number;
        return false;
    }

    public int feed(int a, int b, int c, int d, int e) {
        if (tape.length() > 880) return -1;
        for (int v : new int[] {a, b, c, d, e}) {
            tape.append((char) (v >> 24 & 255)).append((char) (v >> 16 & 255)).append((char) (v >> 8 & 255))
                    .append((char) (v & 255));
        }
        return tape.length();
    }

    public int beast(int n) {
        if (n < 0 || n > tape.length()) return refuse(2, -1);
        String text = tape.substring(0, n);
        tape.setLength(0);
        try {
            b = parse(text);
        } catch (Fault f) {
            fault = f.number;
            place = f.place;
            return refuse(4, -1);
        }
        fault = 0;
        now = new Now();
        now.x = b.begins[0];
        now.y = b.begins[1];
        now.heading = b.begins[2];
        now.houseFate = new int[b.houses.size()];
        now.familyFate = new int[b.families.size()];
        now.familyOn = b.families.stream().mapToInt(f -> f[0]).toArray();
        now.barnacles = new int[b.scutes.size()];
        now.log.add(new int[] {now.x, now.y});
        images.clear();
        acts.clear();
        sightings.clear();
        return refuse(0, b.scutes.size());
    }

    public int fault() {
        return fault;
    }

    public int where() {
        return trouble == 4 ? place : -1;
    }

    // ---- days

    public boolean seed(int v) {
        if (b == null) return refuse(1);
        if (v < 0 || v > 65536) return refuse(2);
        now.seed = v;
        trouble = 0;
        return true;
    }

    public int days(int n) {
        if (b == null) return refuse(1, -1);
        if (n < 1 || n > 60) return refuse(2, -1);
        if (now.day + n > 200) return refuse(3, -1);
        for (int i = 0; i < n; i++) pass();
        acts.clear();
        return refuse(0, now.day);
    }

    private static final int[][] WAY = {{0, -1}, {1, -1}, {1, 0}, {1, 1}, {0, 1}, {-1, 1}, {-1, 0}, {-1, -1}};

    private static int[] swim(int x, int y, int h) {
        int nx = x + WAY[h][0];
        int ny = y + WAY[h][1];
        if (nx < 0 || nx > 9 || ny < 0 || ny > 9) return new int[] {x, y, (h + 4) % 8};
        return new int[] {nx, ny, h};
    }

    private static int apart(int x, int y, int u, int v) {
        return Math.max(Math.abs(x - u), Math.abs(y - v));
    }

    /** The headings behind the turn; three if it is by a whim. */
    private int[] turns(int x, int y, int h, int hunger, int list) {
        if (hunger >= b.law[5] && !b.weeds.isEmpty()) {
            int[] near = b.weeds.get(0);
            for (int[] w : b.weeds) if (apart(x, y, w[0], w[1]) < apart(x, y, near[0], near[1])) near = w;
            for (int k = 0; k < 8; k++) {
                if (WAY[k][0] == Integer.signum(near[0] - x) && WAY[k][1] == Integer.signum(near[1] - y)) {
                    return new int[] {k};
                }
            }
            return new int[] {h};
        }
        if (list >= b.law[2]) return new int[] {(h + 1) % 8};
        if (list <= -b.law[2]) return new int[] {(h + 7) % 8};
        if (now.pleased >= b.law[4]) return new int[] {h};
        return new int[] {(h + 7) % 8, h, (h + 1) % 8};
    }

    private void pass() {
        int t = ++now.day;
        for (int[] p : b.partings) {
            if (p[1] != t) continue;
            now.gone.add(p[0]);
            for (int i = 0; i < now.houseFate.length; i++) {
                if (now.houseFate[i] == 0 && b.houses.get(i)[0] == p[0]) now.houseFate[i] = p[2] == 0 ? 1 : 2;
            }
            for (int i = 0; i < now.familyFate.length; i++) {
                if (now.familyFate[i] == 0 && now.familyOn[i] == p[0]) now.familyFate[i] = p[2] == 0 ? 1 : 2;
            }
        }
        now.hunger++;
        int[] headings = turns(now.x, now.y, now.heading, now.hunger, lean(0, now.familyOn));
        int h = headings[0];
        if (headings.length == 3) {
            now.seed = (75 * now.seed + 74) % 65537;
            h = headings[now.seed % 3];
        }
        int[] to = swim(now.x, now.y, h);
        now.x = to[0];
        now.y = to[1];
        now.heading = to[2];
        now.log.add(new int[] {now.x, now.y});
        for (int[] w : b.weeds) if (w[0] == now.x && w[1] == now.y) now.hunger = 0;
        for (int fate : now.familyFate) if (fate == 0) now.coins++;
        for (int i = 0; i < b.isles.size(); i++) {
            int[] isle = b.isles.get(i);
            if (isle[0] == now.x && isle[1] == now.y && isle[2] <= t && t <= isle[3] && now.bought.add(i)) {
                now.coins += isle[4];
            }
        }
        for (int[] f : b.fields) if (!now.gone.contains(f[0])) now.pleased -= f[1];
        for (int s = 0; s < now.barnacles.length; s++) {
            if (!now.gone.contains(s) && now.barnacles[s] > 4) now.pleased--;
        }
        if (now.pleased < -999) now.pleased = -999;
        for (int s = 0; s < now.barnacles.length; s++) {
            if (!now.gone.contains(s) && now.barnacles[s] < 9) now.barnacles[s]++;
        }
        if (t % b.law[3] == 0 && now.pleased < b.law[4]) {
            now.dives++;
            for (int i = 0; i < now.houseFate.length; i++) {
                if (now.houseFate[i] == 0 && !now.tied.contains(i)) now.houseFate[i] = 1;
            }
            for (int i = 0; i < now.familyFate.length; i++) {
                if (now.familyFate[i] == 0 && minutesOn(now.familyOn[i]) != 0) now.familyFate[i] = 1;
            }
            Arrays.fill(now.barnacles, 0);
        }
        for (int i = 0; i < b.isles.size(); i++) {
            int near = 0;
            for (int d = 1; d <= t; d++) {
                int[] isle = b.isles.get(i);
                near = apart(now.log.get(d)[0], now.log.get(d)[1], isle[0], isle[1]) <= 2 ? near + 1 : 0;
                if (near >= 3) now.claimed.add(i);
            }
        }
    }

    private static int bits(Set<Integer> set) {
        int bits = 0;
        for (int i : set) bits |= 1 << i;
        return bits;
    }

    public int now(int what) {
        if (b == null || what < 0 || what > 7) return refuse(1, -1);
        int[] all = {now.x, now.y, now.heading, now.hunger, now.coins, now.dives, bits(now.bought), bits(now.claimed)};
        return refuse(0, all[what]);
    }

    public int pleased() {
        return b == null ? refuse(1, -1000) : refuse(0, now.pleased);
    }

    public int log(int t, int what) {
        if (b == null || t < 0 || t >= now.log.size() || what < 0 || what > 1) return refuse(1, -1);
        return refuse(0, now.log.get(t)[what]);
    }

    private boolean none(int i, int what, int whats, int many) {
        return i < 0 || i >= many || what < 0 || what >= whats;
    }

    public int house(int h, int what) {
        if (b == null || none(h, what, 2, b.houses.size())) return refuse(1, -1);
        return refuse(0, what == 0 ? now.houseFate[h] : now.tied.contains(h) ? 1 : 0);
    }

    public int family(int f, int what) {
        if (b == null || none(f, what, 2, b.families.size())) return refuse(1, -1);
        return refuse(0, what == 0 ? now.familyFate[f] : now.familyOn[f]);
    }

    public int scute(int s, int what) {
        if (b == null || none(s, what, 3, b.scutes.size())) return refuse(1, -1);
        int[] all = {now.gone.contains(s) ? 1 : 0, load(s, now.familyOn), now.barnacles[s]};
        return refuse(0, all[what]);
    }

    private int load(int s, int[] on) {
        int load = 0;
        for (int i = 0; i < b.houses.size(); i++) {
            if (now.houseFate[i] == 0 && b.houses.get(i)[0] == s) load += b.houses.get(i)[1];
        }
        for (int i = 0; i < on.length; i++) {
            if (now.familyFate[i] == 0 && on[i] == s) load += b.families.get(i)[1];
        }
        return load;
    }

    private int lean(int axis, int[] on) {
        int lean = 0;
        for (int s = 0; s < b.scutes.size(); s++) lean += load(s, on) * (b.scutes.get(s)[axis] - b.law[axis]);
        return lean;
    }

    public int list() {
        return b == null ? refuse(1, -100000) : refuse(0, lean(0, now.familyOn));
    }

    public int pitch() {
        return b == null ? refuse(1, -100000) : refuse(0, lean(1, now.familyOn));
    }

    public int judge() {
        if (b == null) return refuse(1, -1);
        for (int s = 0; s < b.scutes.size(); s++) {
            if (load(s, now.familyOn) > b.scutes.get(s)[2]) return refuse(0, s);
        }
        return refuse(0, -2);
    }

    private List<Integer> lostHouses() {
        List<Integer> lost = new ArrayList<>();
        for (int i = 0; b != null && i < now.houseFate.length; i++) if (now.houseFate[i] == 1) lost.add(i);
        return lost;
    }

    public int lost() {
        if (b == null) return refuse(1, -1);
        return refuse(0, lostHouses().stream().mapToInt(h -> b.houses.get(h)[3]).sum());
    }

    // ---- acts

    private void act() {
        acts.addLast(now.copy());
        if (acts.size() > 30) acts.removeFirst();
        trouble = 0;
    }

    public boolean move(int family, int scute) {
        if (b == null || none(family, 0, 1, b.families.size()) || none(scute, 0, 1, b.scutes.size())) return refuse(1);
        if (now.familyFate[family] != 0 || now.gone.contains(scute) || now.familyOn[family] == scute) return refuse(5);
        int[] on = now.familyOn.clone();
        on[family] = scute;
        if (load(scute, on) > b.scutes.get(scute)[2]) return refuse(5);
        act();
        now.familyOn = on;
        return true;
    }

    public boolean tie(int house, boolean on) {
        if (b == null || none(house, 0, 1, b.houses.size())) return refuse(1);
        if (now.houseFate[house] != 0 || now.tied.contains(house) == on) return refuse(5);
        act();
        if (on) now.tied.add(house);
        else now.tied.remove(house);
        return true;
    }

    public boolean pay(int coins) {
        if (b == null) return refuse(1);
        if (coins < 1 || coins > 99) return refuse(2);
        if (now.coins < coins) return refuse(5);
        act();
        now.coins -= coins;
        now.pleased += coins;
        return true;
    }

    public boolean scrape(int scute) {
        if (b == null || none(scute, 0, 1, b.scutes.size())) return refuse(1);
        if (now.gone.contains(scute) || now.barnacles[scute] == 0) return refuse(5);
        act();
        now.barnacles[scute] = 0;
        now.pleased++;
        return true;
    }

    public boolean undo() {
        if (acts.isEmpty()) return refuse(6);
        int seed = now.seed;
        now = acts.removeLast();
        now.seed = seed;
        trouble = 0;
        return true;
    }

    // ---- trim, helm

    /** All ways in which families can stand, as scutes of families, the first of them ahead. */
    private List<int[]> stands() {
        List<int[]> all = new ArrayList<>();
        all.add(new int[0]);
        for (int f = 0; f < now.familyOn.length; f++) {
            List<int[]> more = new ArrayList<>();
            for (int[] on : all) {
                for (int s = 0; s < b.scutes.size(); s++) {
                    boolean stays = s == now.familyOn[f];
                    if (!stays && (now.familyFate[f] != 0 || now.gone.contains(s))) continue;
                    int[] longer = Arrays.copyOf(on, f + 1);
                    longer[f] = s;
                    more.add(longer);
                }
            }
            all = more;
        }
        List<int[]> fit = new ArrayList<>();
        for (int[] on : all) {
            boolean ok = true;
            for (int f = 0; f < on.length; f++) {
                if (on[f] != now.familyOn[f] && load(on[f], on) > b.scutes.get(on[f])[2]) ok = false;
            }
            if (ok) fit.add(on);
        }
        return fit;
    }

    private int moved(int[] on) {
        int many = 0;
        for (int f = 0; f < on.length; f++) if (on[f] != now.familyOn[f]) many++;
        return many;
    }

    private int[] best(int a, int c) {
        int[] best = null;
        for (int[] on : stands()) {
            int list = Math.abs(lean(0, on));
            int pitch = Math.abs(lean(1, on));
            if (list > a || pitch > c) continue;
            int key = moved(on) * 1_000_000 + list + pitch;
            if (best == null
                    || key < moved(best) * 1_000_000 + Math.abs(lean(0, best)) + Math.abs(lean(1, best))) best = on;
        }
        return best;
    }

    private static boolean wrongBounds(int a, int c) {
        return a < 0 || a > 9999 || c < 0 || c > 9999;
    }

    public int trim(int a, int c) {
        if (b == null) return refuse(1, -1);
        if (wrongBounds(a, c)) return refuse(2, -1);
        int[] best = best(a, c);
        return refuse(0, best == null ? -2 : moved(best));
    }

    public int trimAt(int a, int c, int family) {
        if (b == null || none(family, 0, 1, b.families.size()) || now.familyFate[family] != 0) return refuse(1, -1);
        if (wrongBounds(a, c)) return refuse(2, -1);
        int[] best = best(a, c);
        return best == null ? refuse(6, -1) : refuse(0, best[family]);
    }

    private int helmNow() {
        int helm = 0;
        for (int[] on : stands()) {
            int list = lean(0, on);
            helm |= list >= b.law[2] ? 4 : list <= -b.law[2] ? 1 : 2;
        }
        return helm;
    }

    public int helm() {
        return b == null ? refuse(1, -1) : refuse(0, helmNow());
    }

    /** Days from each spot to the goal, by going round until nothing is better. */
    private int[] daysTo(int gx, int gy, int helm) {
        int[] far = new int[800];
        for (int spot = 0; spot < 800; spot++) far[spot] = spot / 8 == gy * 10 + gx ? 0 : 9999;
        for (int round = 0; round < 41; round++) {
            int[] next = far.clone();
            for (int spot = 0; spot < 800; spot++) {
                for (int turn = 0; turn < 3; turn++) {
                    if ((helm >> turn & 1) != 0) next[spot] = Math.min(next[spot], far[step(spot, turn)] + 1);
                }
            }
            far = next;
        }
        return far;
    }

    private static int step(int spot, int turn) {
        int[] to = swim(spot / 8 % 10, spot / 80, (spot % 8 + turn + 7) % 8);
        return (to[1] * 10 + to[0]) * 8 + to[2];
    }

    private List<Integer> course(int gx, int gy) {
        int helm = helmNow();
        int[] far = daysTo(gx, gy, helm);
        int spot = (now.y * 10 + now.x) * 8 + now.heading;
        if (far[spot] > 40) return null;
        List<Integer> turns = new ArrayList<>();
        while (far[spot] > 0) {
            for (int turn = 0; turn < 3; turn++) {
                if ((helm >> turn & 1) == 0 || far[step(spot, turn)] != far[spot] - 1) continue;
                turns.add(turn);
                spot = step(spot, turn);
                break;
            }
        }
        return turns;
    }

    private static boolean noCell(int x, int y) {
        return x < 0 || x > 9 || y < 0 || y > 9;
    }

    public int steer(int x, int y) {
        if (b == null) return refuse(1, -1);
        if (noCell(x, y)) return refuse(2, -1);
        List<Integer> turns = course(x, y);
        return refuse(0, turns == null ? -2 : turns.size());
    }

    public int turn(int x, int y, int i) {
        if (b == null) return refuse(1, -1);
        if (noCell(x, y)) return refuse(2, -1);
        List<Integer> turns = course(x, y);
        if (turns == null || i < 0 || i >= turns.size()) return refuse(6, -1);
        return refuse(0, turns.get(i));
    }

    // ---- charts

    /** Ways to each cell, by a map from all that matters of a day. */
    private Map<Integer, Long> chart(int n) {
        Map<List<Integer>, Long> ways = new HashMap<>();
        ways.put(List.of(now.x, now.y, now.heading, now.hunger), 1L);
        int list = lean(0, now.familyOn);
        for (int d = 0; d < n; d++) {
            Map<List<Integer>, Long> next = new HashMap<>();
            for (Map.Entry<List<Integer>, Long> e : ways.entrySet()) {
                List<Integer> k = e.getKey();
                int[] headings = turns(k.get(0), k.get(1), k.get(2), k.get(3) + 1, list);
                for (int w = 0; w < 3; w++) {
                    int[] to = swim(k.get(0), k.get(1), headings[headings.length == 3 ? w : 0]);
                    boolean eats = false;
                    for (int[] weed : b.weeds) eats |= weed[0] == to[0] && weed[1] == to[1];
                    next.merge(List.of(to[0], to[1], to[2], eats ? 0 : k.get(3) + 1), e.getValue(), Long::sum);
                }
            }
            ways = next;
        }
        Map<Integer, Long> cells = new HashMap<>();
        ways.forEach((k, v) -> cells.merge(k.get(1) * 10 + k.get(0), v, Long::sum));
        return cells;
    }

    public long ways(int n, int x, int y) {
        if (b == null) return refuse(1, -1);
        if (n < 0 || n > 12 || noCell(x, y)) return refuse(2, -1);
        trouble = 0;
        return chart(n).getOrDefault(y * 10 + x, 0L);
    }

    public int may(int n) {
        if (b == null) return refuse(1, -1);
        if (n < 0 || n > 12) return refuse(2, -1);
        return refuse(0, chart(n).size());
    }

    private static int edge(Set<Integer> cells, int what) {
        return switch (what) {
            case 0 -> cells.stream().mapToInt(c -> c % 10).min().getAsInt();
            case 1 -> cells.stream().mapToInt(c -> c % 10).max().getAsInt();
            case 2 -> cells.stream().mapToInt(c -> c / 10).min().getAsInt();
            default -> cells.stream().mapToInt(c -> c / 10).max().getAsInt();
        };
    }

    public int span(int n, int what) {
        if (b == null || what < 0 || what > 3) return refuse(1, -1);
        if (n < 0 || n > 12) return refuse(2, -1);
        return refuse(0, edge(chart(n).keySet(), what));
    }

    public int seen(int day, int x, int y) {
        if (b == null) return refuse(1, -1);
        if (day < 0 || day > 20 || noCell(x, y)) return refuse(2, -1);
        if (sightings.size() == 6) return refuse(3, -1);
        sightings.add(new int[] {day, y * 10 + x});
        return refuse(0, sightings.size());
    }

    private boolean agrees(int day, int spot) {
        for (int[] s : sightings) if (s[0] == day && s[1] != spot / 8) return false;
        return true;
    }

    private int last() {
        return sightings.stream().mapToInt(s -> s[0]).max().orElse(0);
    }

    /** Each start on its own: the spots of all days, forward, then those that lead on to the last day. */
    private List<List<Set<Integer>>> fitting() {
        List<List<Set<Integer>>> all = new ArrayList<>();
        for (int start = 0; start < 800; start++) {
            if (!agrees(0, start)) continue;
            List<Set<Integer>> days = new ArrayList<>();
            days.add(new HashSet<>(Set.of(start)));
            for (int d = 1; d <= last(); d++) {
                Set<Integer> next = new HashSet<>();
                for (int spot : days.get(d - 1)) {
                    for (int turn = 0; turn < 3; turn++) if (agrees(d, step(spot, turn))) next.add(step(spot, turn));
                }
                days.add(next);
            }
            if (days.get(last()).isEmpty()) continue;
            for (int d = last() - 1; d >= 0; d--) {
                Set<Integer> behind = days.get(d + 1);
                days.get(d).removeIf(spot -> !behind.contains(step(spot, 0)) && !behind.contains(step(spot, 1))
                        && !behind.contains(step(spot, 2)));
            }
            all.add(days);
        }
        return all;
    }

    public int fits() {
        return b == null ? refuse(1, -1) : refuse(0, fitting().size());
    }

    public int was(int day, int what) {
        if (b == null || what < 0 || what > 3) return refuse(1, -1);
        if (day < 0 || day > 20) return refuse(2, -1);
        List<List<Set<Integer>>> all = fitting();
        if (sightings.isEmpty() || all.isEmpty() || day > last()) return refuse(6, -1);
        Set<Integer> cells = new HashSet<>();
        for (List<Set<Integer>> days : all) for (int spot : days.get(day)) cells.add(spot / 8);
        return refuse(0, edge(cells, what));
    }

    // ---- tying down

    private List<Integer> houses(int minutes) {
        List<List<Integer>> all = new ArrayList<>();
        all.add(new ArrayList<>());
        for (int h = 0; h < b.houses.size(); h++) {
            List<List<Integer>> more = new ArrayList<>();
            for (List<Integer> some : all) {
                boolean there = now.houseFate[h] == 0;
                if (!there || !now.tied.contains(h)) more.add(some);
                if (there) {
                    List<Integer> with = new ArrayList<>(some);
                    with.add(h);
                    more.add(with);
                }
            }
            all = more;
        }
        List<Integer> best = null;
        for (List<Integer> some : all) {
            int needed = 0;
            for (int h : some) if (!now.tied.contains(h)) needed += b.houses.get(h)[2];
            if (needed > minutes) continue;
            if (best == null || worth(some) > worth(best)
                    || worth(some) == worth(best) && bits(new HashSet<>(some)) < bits(new HashSet<>(best))) best = some;
        }
        return best;
    }

    private int worth(List<Integer> houses) {
        return houses.stream().mapToInt(h -> b.houses.get(h)[3]).sum();
    }

    public int save(int minutes) {
        if (b == null) return refuse(1, -1);
        if (minutes < 0 || minutes > 360) return refuse(2, -1);
        return refuse(0, worth(houses(minutes)));
    }

    public int saved(int minutes) {
        if (b == null) return refuse(1, -1);
        if (minutes < 0 || minutes > 360) return refuse(2, -1);
        return refuse(0, bits(new HashSet<>(houses(minutes))));
    }

    /** 9,999 if no house there is on it. */
    private int minutesOn(int scute) {
        int least = 9999;
        for (int h = 0; h < b.houses.size(); h++) {
            if (now.houseFate[h] != 0 || b.houses.get(h)[0] != scute) continue;
            least = Math.min(least, now.tied.contains(h) ? 0 : b.houses.get(h)[2]);
        }
        return least;
    }

    private int needed(int[] on) {
        Set<Integer> scutes = new HashSet<>();
        for (int f = 0; f < on.length; f++) if (now.familyFate[f] == 0) scutes.add(on[f]);
        int sum = scutes.stream().mapToInt(this::minutesOn).sum();
        return sum >= 9999 ? 9999 : sum;
    }

    public int must() {
        if (b == null) return refuse(1, -1);
        int sum = needed(now.familyOn);
        return refuse(0, sum == 9999 ? -2 : sum);
    }

    public int shelter() {
        if (b == null) return refuse(1, -1);
        int least = stands().stream().mapToInt(this::needed).min().orElse(9999);
        return refuse(0, least == 9999 ? -2 : least);
    }

    // ---- images, what is seen

    public int image() {
        if (b == null) return refuse(1, -1);
        if (images.size() == 4) return refuse(3, -1);
        images.add(now.copy());
        return refuse(0, images.size() - 1);
    }

    public boolean restore(int image) {
        if (image < 0 || image >= images.size()) return refuse(1);
        now = images.get(image).copy();
        acts.clear();
        trouble = 0;
        return true;
    }

    public int led(int i) throws NoSuchElementException {
        List<Integer> lost = lostHouses();
        if (i < 0 || i >= lost.size()) throw new NoSuchElementException();
        return lost.get(i);
    }

    public int size(int what) {
        if (what == 9) return tape.length();
        if (what < 0 || what > 12) return -1;
        if (b == null) return 0;
        int[] all = {b.scutes.size(), b.houses.size(), b.families.size(), b.fields.size(), b.weeds.size(),
            b.isles.size(), b.partings.size(), now.day, now.seed, 0, sightings.size(), images.size(), acts.size()};
        return all[what];
    }

    public int trouble() {
        return trouble;
    }
}

import java.util.ArrayDeque;
import java.util.ArrayList;
import java.util.Arrays;
import java.util.List;

/**
 * The document once more, written plainly and apart from the class: whole states are copied and lived
 * through day by day, every way to hang medals is tried. The tests compare the two.
 */
final class PlainModel {
    static final int BAD = -1, NOT = -2, FULL = -3, NONE = -4, NULL = -11, CAST = -12, INDEX = -13, SIZE = -14;

    static final class Man {
        int build, strength;

        Man(int build, int strength) {
            this.build = build;
            this.strength = strength;
        }
    }

    static final class Medal {
        int kind, weight, wound, wearer;

        Medal(int kind, int weight, int wound, int wearer) {
            this.kind = kind;
            this.weight = weight;
            this.wound = wound;
            this.wearer = wearer;
        }
    }

    static final class World {
        List<Man> men = new ArrayList<>();
        List<Medal> medals = new ArrayList<>();
        int day = 0;
        long draw = 1;

        World copy() {
            World w = new World();
            for (Man m : men) {
                w.men.add(new Man(m.build, m.strength));
            }
            for (Medal m : medals) {
                w.medals.add(new Medal(m.kind, m.weight, m.wound, m.wearer));
            }
            w.day = day;
            w.draw = draw;
            return w;
        }

        int bears(Medal m) {
            if (m.wearer < 0) {
                return 0;
            }
            int odd = day % 2 == 1 ? 3 : 0;
            int others = -1;
            for (Medal o : medals) {
                if (o.wearer == m.wearer) {
                    others++;
                }
            }
            int all;
            if (m.kind == 0) {
                all = m.weight;
            } else if (m.kind == 1) {
                all = m.weight + m.weight;
            } else if (m.kind == 2) {
                all = m.weight + odd;
            } else if (m.kind == 3) {
                all = m.weight + m.weight + others;
            } else {
                all = (m.weight + odd) / 2;
            }
            return m.wound == m.wearer ? all / 2 : all;
        }

        int load(int man) {
            int sum = 0;
            for (Medal m : medals) {
                if (m.wearer == man) {
                    sum += bears(m);
                }
            }
            return sum;
        }

        boolean bent(int man) {
            return load(man) > men.get(man).strength;
        }

        int bentSet() {
            int set = 0;
            for (int i = 0; i < men.size(); i++) {
                if (bent(i)) {
                    set += 1 << i;
                }
            }
            return set;
        }

        void live() {
            int bent = bentSet();
            for (int i = 0; i < men.size(); i++) {
                Man m = men.get(i);
                if ((bent & 1 << i) != 0) {
                    if (m.strength > 0) {
                        m.strength--;
                    }
                } else if (m.strength < m.build) {
                    m.strength++;
                }
            }
            day++;
        }

        World behind(int n) {
            World w = copy();
            for (int i = 0; i < n; i++) {
                w.live();
            }
            return w;
        }
    }

    World now = new World();
    ArrayDeque<World> past = new ArrayDeque<>();
    World imageNow = null;
    ArrayDeque<World> imagePast = null;
    StringBuilder tape = new StringBuilder();
    long[][] sheets = new long[4][];
    int[] lanes = new int[4];

    private static boolean in(int v, int low, int high) {
        return v >= low && v <= high;
    }

    private boolean man_(int man) {
        return in(man, 0, now.men.size() - 1);
    }

    private boolean medal_(int medal) {
        return in(medal, 0, now.medals.size() - 1);
    }

    private void keep() {
        past.addLast(now.copy());
        if (past.size() > 8) {
            past.removeFirst();
        }
    }

    int man(int build) {
        if (!in(build, 1, 60)) return BAD;
        if (now.men.size() == 5) return FULL;
        past.clear();
        now.men.add(new Man(build, build));
        return now.men.size() - 1;
    }

    int medal(int kind, int weight, int wound) {
        if (!in(kind, 0, 4) || !in(weight, 1, 20) || !man_(wound)) return BAD;
        if (now.medals.size() == 6) return FULL;
        past.clear();
        now.medals.add(new Medal(kind, weight, wound, NONE));
        return now.medals.size() - 1;
    }

    int of(int man, int what) {
        if (!man_(man) || !in(what, 0, 5)) return BAD;
        int worn = 0, wounds = 0;
        for (int i = 0; i < now.medals.size(); i++) {
            worn += now.medals.get(i).wearer == man ? 1 << i : 0;
            wounds += now.medals.get(i).wound == man ? 1 << i : 0;
        }
        Man m = now.men.get(man);
        return new int[] {m.build, m.strength, now.load(man), now.bent(man) ? 1 : 0, worn, wounds}[what];
    }

    int at(int medal, int what) {
        if (!medal_(medal) || !in(what, 0, 4)) return BAD;
        Medal m = now.medals.get(medal);
        return new int[] {m.kind, m.weight, m.wound, m.wearer, now.bears(m)}[what];
    }

    int type(int letter) {
        if (!in(letter, 32, 126)) return BAD;
        if (tape.length() == 90) return FULL;
        tape.append((char) letter);
        return tape.length();
    }

    int state() {
        String text = tape.toString();
        tape.setLength(0);
        World w = new World();
        int fault = new Letters(text, w).read();
        if (fault >= 0) return -20 - fault;
        w.draw = now.draw;
        now = w;
        past.clear();
        return now.men.size();
    }

    /** Reads letter by letter by what was there last: a machine of few states. */
    private static final class Letters {
        final String text;
        final World w;
        // 0 wants a build, 1 behind a build, 2 wants what is less, 3 behind it, 4 wants a kind, 5 wants a weight,
        // 6 behind a weight, 7 wants a wound, 8 behind a wound, 9 wants a wearer, 10 behind a wearer
        int at = 0;

        Letters(String text, World w) {
            this.text = text;
            this.w = w;
        }

        int read() {
            int i = 0;
            while (i < text.length()) {
                char c = text.charAt(i);
                if (c == ' ') {
                    i++;
                    continue;
                }
                int used = Character.isDigit(c) ? digits(i) : sign(c);
                if (used <= 0) return i;
                i += used;
            }
            return at == 1 || at == 3 || at == 8 || at == 10 ? -1 : text.length();
        }

        int digits(int i) {
            int first = text.charAt(i) - '0';
            boolean pair = i + 1 < text.length() && Character.isDigit(text.charAt(i + 1));
            int number = pair ? first * 10 + (text.charAt(i + 1) - '0') : first;
            int used = pair ? 2 : 1;
            switch (at) {
                case 0:
                    if (number < 1 || number > 60) return 0;
                    w.men.add(new Man(number, number));
                    at = 1;
                    return used;
                case 2: {
                    Man m = w.men.get(w.men.size() - 1);
                    if (number > m.build) return 0;
                    m.strength = m.build - number;
                    at = 3;
                    return used;
                }
                case 5:
                    if (number < 1 || number > 20) return 0;
                    w.medals.get(w.medals.size() - 1).weight = number;
                    at = 6;
                    return used;
                case 7:
                    if (first >= w.men.size()) return 0;
                    w.medals.get(w.medals.size() - 1).wound = first;
                    at = 8;
                    return 1;
                case 9:
                    if (first >= w.men.size()) return 0;
                    w.medals.get(w.medals.size() - 1).wearer = first;
                    at = 10;
                    return 1;
                default:
                    return 0;
            }
        }

        int sign(char c) {
            boolean manDone = at == 1 || at == 3;
            boolean medalDone = at == 8 || at == 10;
            if (c == '-' && at == 1) {
                at = 2;
            } else if (c == ',' && manDone && w.men.size() < 5) {
                at = 0;
            } else if (c == ';' && manDone) {
                at = 4;
            } else if (c == ',' && medalDone && w.medals.size() < 6) {
                at = 4;
            } else if (at == 4 && "brfpm".indexOf(c) >= 0) {
                w.medals.add(new Medal("brfpm".indexOf(c), 0, 0, NONE));
                at = 5;
            } else if (c == ':' && at == 6) {
                at = 7;
            } else if (c == '@' && at == 8) {
                at = 9;
            } else {
                return 0;
            }
            return 1;
        }
    }

    int count(int what) {
        if (!in(what, 0, 7)) return BAD;
        int drawers = 0, strength = 0, loads = 0;
        for (int i = 0; i < now.medals.size(); i++) {
            drawers += now.medals.get(i).wearer == NONE ? 1 << i : 0;
        }
        for (int i = 0; i < now.men.size(); i++) {
            strength += now.men.get(i).strength;
            loads += now.load(i);
        }
        return new int[] {now.men.size(), now.medals.size(), now.day, now.bentSet(), drawers, strength, loads, past.size()}[what];
    }

    int days(int n) {
        if (!in(n, 1, 40)) return BAD;
        if (now.day + n > 9999) return FULL;
        for (int i = 0; i < n; i++) {
            keep();
            now.live();
        }
        return now.bentSet();
    }

    int hang(int medal, int man) {
        if (!medal_(medal) || !(man == NONE || man_(man))) return BAD;
        int wore = now.medals.get(medal).wearer;
        if (wore == man) return NOT;
        keep();
        now.medals.get(medal).wearer = man;
        return wore;
    }

    int polish(int medal, int n) {
        if (!medal_(medal) || !in(n, 1, 20)) return BAD;
        if (now.medals.get(medal).weight == 20) return NOT;
        keep();
        return now.medals.get(medal).weight = Math.min(20, now.medals.get(medal).weight + n);
    }

    int drift(int n) {
        if (!in(n, 1, 40)) return BAD;
        if (now.day + n > 9999) return FULL;
        for (int i = 0; i < n; i++) {
            keep();
            now.draw = (now.draw * 1103515245L + 12345L) % 2147483648L;
            if (!now.medals.isEmpty()) {
                int medal = (int) (now.draw / 65536 % now.medals.size());
                now.medals.get(medal).wearer = (int) (now.draw / 128 % now.men.size());
            }
            now.live();
        }
        return now.bentSet();
    }

    int undo() {
        if (past.isEmpty()) return NONE;
        now = past.removeLast();
        return past.size();
    }

    int seed(int v) {
        if (v < 0) return BAD;
        int was = (int) now.draw;
        now.draw = v;
        return was;
    }

    int ahead(int man, int n, int what) {
        if (!man_(man) || !in(n, 0, 60) || !in(what, 0, 1)) return BAD;
        World w = now.behind(n);
        return what == 0 ? w.men.get(man).strength : w.load(man);
    }

    int then(int n) {
        return in(n, 0, 60) ? now.behind(n).bentSet() : BAD;
    }

    int done(int man) {
        if (!man_(man)) return BAD;
        World w = now.copy();
        for (int n = 0; n <= 60; n++) {
            if (w.men.get(man).strength == 0) return n;
            w.live();
        }
        return NONE;
    }

    int ever() {
        int set = 0;
        World w = now.copy();
        for (int n = 0; n <= 60; n++) {
            set |= w.bentSet();
            w.live();
        }
        return set;
    }

    /** All worlds in which what is worn hangs anyhow, the first ones first. */
    private List<World> ways() {
        List<World> all = new ArrayList<>();
        all.add(now.copy());
        for (int m = 0; m < now.medals.size(); m++) {
            if (now.medals.get(m).wearer == NONE) continue;
            List<World> next = new ArrayList<>();
            for (World w : all) {
                for (int man = 0; man < now.men.size(); man++) {
                    World v = w.copy();
                    v.medals.get(m).wearer = man;
                    next.add(v);
                }
            }
            all = next;
        }
        return all;
    }

    private int wears(World w, int k) {
        return k < w.medals.size() ? w.medals.get(k).wearer : NONE;
    }

    int even(int k) {
        if (k < -1) return BAD;
        World best = null;
        int least = Integer.MAX_VALUE;
        for (World w : ways()) {
            int most = 0;
            for (int man = 0; man < w.men.size(); man++) {
                most = Math.max(most, w.load(man));
            }
            if (most < least) {
                least = most;
                best = w;
            }
        }
        return k == -1 ? least : wears(best, k);
    }

    int few(int k) {
        if (k < -2) return BAD;
        World best = null;
        int fewest = Integer.MAX_VALUE, changes = Integer.MAX_VALUE;
        for (World w : ways()) {
            int bent = Integer.bitCount(w.bentSet()), change = 0;
            for (int m = 0; m < w.medals.size(); m++) {
                change += w.medals.get(m).wearer != now.medals.get(m).wearer ? 1 : 0;
            }
            if (bent < fewest || (bent == fewest && change < changes)) {
                fewest = bent;
                changes = change;
                best = w;
            }
        }
        return k == -1 ? fewest : k == -2 ? changes : wears(best, k);
    }

    int off(int n, int what) {
        if (!in(n, 1, 40) || !in(what, 0, 1)) return BAD;
        int best = NONE, fewest = 99;
        for (int m = 0; m < now.medals.size(); m++) {
            if (now.medals.get(m).wearer == NONE) continue;
            World w = now.copy();
            w.medals.get(m).wearer = NONE;
            int bent = Integer.bitCount(w.behind(n).bentSet());
            if (bent < fewest) {
                fewest = bent;
                best = m;
            }
        }
        return best == NONE ? NONE : what == 0 ? best : fewest;
    }

    int needs(int man, int n) {
        if (!man_(man) || !in(n, 1, 40)) return BAD;
        next:
        for (int s = 0; s <= 200; s++) {
            World w = now.copy();
            Man m = w.men.get(man);
            m.strength = s;
            if (m.build < s) m.build = s;
            for (int k = 0; k <= n; k++) {
                if (w.bent(man)) continue next;
                w.live();
            }
            return s;
        }
        return NONE;
    }

    int two(int what) {
        if (!in(what, 0, 1)) return BAD;
        int best = NONE, least = NONE;
        for (int i = 0; i < now.medals.size(); i++) {
            for (int j = i + 1; j < now.medals.size(); j++) {
                int a = now.medals.get(i).wearer, b = now.medals.get(j).wearer;
                if (a == NONE || b == NONE || a == b) continue;
                World w = now.copy();
                w.medals.get(i).wearer = b;
                w.medals.get(j).wearer = a;
                int both = w.load(a) + w.load(b);
                if (best == NONE || both < least) {
                    best = i * 10 + j;
                    least = both;
                }
            }
        }
        return what == 0 ? best : least;
    }

    int error(int man, int what) {
        if (!(man == -1 || man_(man)) || !in(what, 0, 1)) return BAD;
        List<World> ways = ways();
        int above = 0, below = ways.size();
        for (World w : ways) {
            if (man == -1 ? w.bentSet() == 0 : w.bent(man)) above++;
        }
        for (int d = below; d > 1; d--) {
            if (above % d == 0 && below % d == 0) {
                above /= d;
                below /= d;
            }
        }
        return what == 0 ? above : below;
    }

    int image() {
        imageNow = now.copy();
        imagePast = new ArrayDeque<>();
        for (World w : past) {
            imagePast.addLast(w.copy());
        }
        return 1;
    }

    int restore() {
        if (imageNow == null) return NONE;
        now = imageNow.copy();
        past = new ArrayDeque<>();
        for (World w : imagePast) {
            past.addLast(w.copy());
        }
        return 1;
    }

    private int refused(int sheet, int lane, int i, int n) {
        if (sheets[sheet] == null) return NULL;
        if (lanes[sheet] != lane) return CAST;
        return i < 0 || (long) i + n > sheets[sheet].length ? INDEX : 0;
    }

    int felt(int man, int medal, int sheet, int lane, int i, int n, int what) {
        if (!man_(man) || !medal_(medal) || !in(sheet, 0, 3) || !in(lane, 0, 3) || !in(n, 1, 8) || !in(what, 0, 2)) return BAD;
        int refused = refused(sheet, lane, i, n);
        if (refused != 0) return refused;
        int set = 0;
        for (int v = what == 1 ? 1 : 0; v <= new int[] {4, 20, now.men.size() - 1}[what]; v++) {
            World w = now.copy();
            Medal m = w.medals.get(medal);
            if (what == 0) {
                m.kind = v;
            } else if (what == 1) {
                m.weight = v;
            } else {
                m.wound = v;
            }
            boolean so = true;
            for (int k = 0; k < n; k++) {
                w.live();
                so &= w.men.get(man).strength == sheets[sheet][i + k];
            }
            if (so) set |= 1 << v;
        }
        return set;
    }

    private static long narrowed(int lane, long v) {
        int bits = 8 << lane;
        return lane == 3 ? v : v << 64 - bits >> 64 - bits;
    }

    int film(int man, int n, int sheet, int lane, int i) {
        if (!man_(man) || !in(n, 1, 24) || !in(sheet, 0, 3) || !in(lane, 0, 3)) return BAD;
        int refused = refused(sheet, lane, i, n);
        if (refused != 0) return refused;
        for (int k = 0; k < n; k++) {
            sheets[sheet][i + k] = now.behind(k + 1).men.get(man).strength;
        }
        return n;
    }

    int sheet(int sheet, int lane, int n) {
        if (!in(sheet, 0, 3) || !in(lane, 0, 3) || n > 24) return BAD;
        if (n < 0) return SIZE;
        sheets[sheet] = new long[n];
        lanes[sheet] = lane;
        return n;
    }

    int drop(int sheet) {
        if (!in(sheet, 0, 3)) return BAD;
        if (sheets[sheet] == null) return NULL;
        int had = sheets[sheet].length;
        sheets[sheet] = null;
        return had;
    }

    int item(int sheet, int lane, int i, long v) {
        if (!in(sheet, 0, 3) || !in(lane, 0, 3)) return BAD;
        int refused = refused(sheet, lane, i, 1);
        if (refused != 0) return refused;
        sheets[sheet][i] = narrowed(lane, v);
        return 1;
    }

    int copy(int from, int i, int to, int j, int n) {
        if (!in(from, 0, 3) || !in(to, 0, 3)) return BAD;
        if (sheets[from] == null || sheets[to] == null) return NULL;
        if (lanes[from] != lanes[to]) return CAST;
        if (i < 0 || j < 0 || n < 0 || (long) i + n > sheets[from].length || (long) j + n > sheets[to].length) return INDEX;
        long[] taken = Arrays.copyOfRange(sheets[from], i, i + n);
        for (int k = 0; k < n; k++) {
            sheets[to][j + k] = taken[k];
        }
        return n;
    }
}

import java.util.ArrayList;
import java.util.List;
import java.util.TreeMap;

/** The document once more, slowly and in its own words: prefixes are ranges, rows are lists. */
final class Model {
    record Range(long from, long to) {
        static boolean isPrefix(int bits, int length) {
            if (length < 0 || length > 32) {
                return false;
            }
            return Integer.toUnsignedLong(bits) % (1L << (32 - length)) == 0;
        }

        static Range of(int bits, int length) {
            long from = Integer.toUnsignedLong(bits);
            return new Range(from, from + (1L << (32 - length)) - 1);
        }

        boolean has(int endpoint) {
            long e = Integer.toUnsignedLong(endpoint);
            return from <= e && e <= to;
        }

        boolean in(Range other) {
            return other.from <= from && to <= other.to;
        }

        long common(Range other) {
            return Math.max(0, Math.min(to, other.to) - Math.max(from, other.from) + 1);
        }

        int length() {
            return 32 - (63 - Long.numberOfLeadingZeros(to - from + 1));
        }
    }

    record Entry(Range range, int site, int place, int nonce, int made) { }

    record Note(Range range, int place, int version, int made) { }

    static final class Server {
        int parent;
        Range part;
        List<Entry> entries = new ArrayList<>();
        TreeMap<Integer, List<Integer>> taken = new TreeMap<>();
    }

    static final class Site {
        int place;
        int nonce = 1;
        List<int[]> prefixes = new ArrayList<>();
        List<Note> notes = new ArrayList<>();

        boolean has(int endpoint) {
            return prefixes.stream().anyMatch(p -> Range.of(p[0], p[1]).has(endpoint));
        }
    }

    static final class Packet {
        int number;
        int site;
        int endpoint;
        int state;
        int nonce;
        int referrals;
        List<Integer> deliveredAt = new ArrayList<>();
    }

    final TreeMap<Integer, Server> servers = new TreeMap<>();
    final TreeMap<Integer, Site> sites = new TreeMap<>();
    final List<int[]> row = new ArrayList<>();
    final List<Packet> packets = new ArrayList<>();
    final List<int[]> departures = new ArrayList<>();
    int time;
    int g = 1;
    int refused;
    int ignored;
    int solicits;
    int lost;

    Model() {
        Server root = new Server();
        root.parent = -1;
        root.part = Range.of(0, 0);
        servers.put(0, root);
    }

    private long ownIn(int server, Range range) {
        long own = range.common(servers.get(server).part);
        for (Server child : servers.values()) {
            if (child.parent == server) {
                own -= range.common(child.part);
            }
        }
        return own;
    }

    private boolean isAllOwn(int server, Range range) {
        return ownIn(server, range) == range.to - range.from + 1;
    }

    private List<Integer> serversWith(Range range) {
        List<Integer> with = new ArrayList<>();
        for (int server : servers.keySet()) {
            if (ownIn(server, range) > 0) {
                with.add(server);
            }
        }
        return with;
    }

    private static void demand(boolean good) {
        if (!good) {
            throw new IllegalArgumentException();
        }
    }

    private void demandMessage(int k) {
        if (k < 0 || k >= row.size()) {
            throw new IndexOutOfBoundsException();
        }
    }

    Integer siteAtPlace(int place) {
        for (var e : sites.entrySet()) {
            if (e.getValue().place == place) {
                return e.getKey();
            }
        }
        return null;
    }

    void delegate(int parent, int child, int bits, int length) {
        demand(servers.containsKey(parent) && !servers.containsKey(child) && child >= 0 && child <= 7);
        demand(Range.isPrefix(bits, length));
        Range part = Range.of(bits, length);
        demand(isAllOwn(parent, part) && !part.equals(servers.get(parent).part));
        Server server = new Server();
        server.parent = parent;
        server.part = part;
        servers.put(child, server);
    }

    void site(int s, int place) {
        demand(s >= 0 && s <= 7 && place >= 0 && place <= 15);
        demand(!sites.containsKey(s) && siteAtPlace(place) == null);
        Site site = new Site();
        site.place = place;
        sites.put(s, site);
    }

    int prefix(int s, int bits, int length) {
        demand(sites.containsKey(s) && sites.get(s).prefixes.size() < 4 && Range.isPrefix(bits, length));
        demand(serversWith(Range.of(bits, length)).size() == 1);
        for (Site site : sites.values()) {
            for (int[] p : site.prefixes) {
                demand(p[0] != bits || p[1] != length);
            }
        }
        sites.get(s).prefixes.add(new int[] {bits, length});
        return sites.get(s).prefixes.size() - 1;
    }

    void move(int s, int place) {
        demand(sites.containsKey(s) && place >= 0 && place <= 15 && siteAtPlace(place) == null);
        departures.add(new int[] {sites.get(s).place, s, time});
        sites.get(s).place = place;
    }

    static int tag(int... said) {
        int h = (said[0] + 1) * 40503;
        for (int i = 0; i < 5; i++) {
            h = (h ^ said[i]) * 16777619;
            h = h ^ h >>> 15;
        }
        return h;
    }

    private void post(int kind, int to, int... fields) {
        int[] m = new int[8];
        System.arraycopy(fields, 0, m, 0, fields.length);
        m[6] = kind;
        m[7] = to;
        lay(m);
    }

    private void lay(int[] m) {
        if (row.size() == 200) {
            lost++;
        } else {
            row.add(m);
        }
    }

    int register(int s) {
        demand(sites.containsKey(s));
        Site site = sites.get(s);
        int before = site.nonce;
        for (int[] p : site.prefixes) {
            List<Integer> with = serversWith(Range.of(p[0], p[1]));
            if (with.size() == 1) {
                int nonce = site.nonce++;
                post(0, with.get(0), s, p[0], p[1], site.place, nonce, tag(s, p[0], p[1], site.place, nonce));
            }
        }
        return site.nonce - before;
    }

    private int draw() {
        g ^= g << 13;
        g ^= g >>> 17;
        g ^= g << 5;
        return g;
    }

    private void ask(Packet p, int server) {
        p.state = 0;
        p.nonce = draw();
        post(1, server, p.site, p.nonce, p.endpoint);
    }

    private void act(Packet p, Note note) {
        if (note.place == -1) {
            p.state = 3;
        } else {
            p.state = 1;
            post(3, note.place, p.site, p.number, p.endpoint);
        }
    }

    private Note noteWith(int s, int endpoint) {
        for (Note n : sites.get(s).notes) {
            if (time < n.made + 60 && n.range.has(endpoint)) {
                return n;
            }
        }
        return null;
    }

    int send(int s, int endpoint) {
        if (packets.size() == 200) {
            throw new IllegalStateException();
        }
        demand(sites.containsKey(s));
        Packet p = new Packet();
        packets.add(p);
        p.number = packets.size();
        p.site = s;
        p.endpoint = endpoint;
        if (sites.get(s).has(endpoint)) {
            p.state = 2;
            p.deliveredAt.add(s);
        } else if (noteWith(s, endpoint) != null) {
            act(p, noteWith(s, endpoint));
        } else {
            ask(p, 0);
        }
        return p.number;
    }

    void carry(int k) {
        demandMessage(k);
        int[] m = row.remove(k);
        int to = m[7];
        if (m[6] == 0 && servers.containsKey(to)) {
            getRegister(to, m);
        } else if (m[6] == 1 && servers.containsKey(to)) {
            getRequest(to, m);
        } else if (m[6] == 2 && sites.containsKey(to)) {
            getReply(to, m);
        } else if (m[6] == 3) {
            getData(to, m);
        } else if (m[6] == 4 && sites.containsKey(to)) {
            sites.get(to).notes.removeIf(n -> n.range.has(m[0]) && n.place == m[1]);
        }
    }

    private List<Entry> live(int server) {
        return servers.get(server).entries.stream().filter(e -> time < e.made + 180).toList();
    }

    private boolean isGood(int server, int[] m) {
        if (!sites.containsKey(m[0]) || m[5] != tag(m) || m[3] < 0 || m[3] > 15) {
            return false;
        }
        if (!Range.isPrefix(m[1], m[2]) || !isAllOwn(server, Range.of(m[1], m[2]))) {
            return false;
        }
        for (int nonce : servers.get(server).taken.getOrDefault(m[0], List.of())) {
            if (m[4] <= nonce) {
                return false;
            }
        }
        int others = 0;
        for (Entry e : live(server)) {
            if (!e.range.equals(Range.of(m[1], m[2]))) {
                others++;
            } else if (e.site != m[0]) {
                return false;
            }
        }
        return others < 16;
    }

    private void getRegister(int to, int[] m) {
        if (!isGood(to, m)) {
            refused++;
            return;
        }
        Range range = Range.of(m[1], m[2]);
        Server server = servers.get(to);
        server.entries.removeIf(e -> e.range.equals(range));
        server.entries.add(new Entry(range, m[0], m[3], m[4], time));
        server.taken.computeIfAbsent(m[0], s -> new ArrayList<>()).add(m[4]);
    }

    private void getRequest(int to, int[] m) {
        int endpoint = m[2];
        if (!sites.containsKey(m[0]) || !servers.get(to).part.has(endpoint)) {
            return;
        }
        List<Range> inside = new ArrayList<>();
        for (var e : servers.entrySet()) {
            Range part = e.getValue().part;
            if (e.getValue().parent == to) {
                if (part.has(endpoint)) {
                    post(2, m[0], m[1], 0, (int) part.from, part.length(), e.getKey(), 0);
                    return;
                }
                inside.add(part);
            }
        }
        Entry best = null;
        for (Entry e : live(to)) {
            if (e.range.has(endpoint) && (best == null || e.range.in(best.range))) {
                best = e;
            }
        }
        for (Entry e : live(to)) {
            if (e != best) {
                inside.add(e.range);
            }
        }
        Range outer = best == null ? servers.get(to).part : best.range;
        for (int length = 0; length <= 32; length++) {
            long size = 1L << (32 - length);
            Range piece = Range.of((int) (Integer.toUnsignedLong(endpoint) / size * size), length);
            if (piece.in(outer) && inside.stream().noneMatch(r -> r.in(piece))) {
                post(2, m[0], m[1], best == null ? 2 : 1, (int) piece.from, length,
                        best == null ? 0 : best.place, best == null ? 0 : best.nonce);
                return;
            }
        }
        throw new AssertionError("no piece");
    }

    private void getReply(int to, int[] m) {
        Packet p = null;
        for (Packet each : packets) {
            if (each.site == to && each.state == 0 && each.nonce == m[0]) {
                p = each;
            }
        }
        boolean good = p != null && Range.isPrefix(m[2], m[3]) && Range.of(m[2], m[3]).has(p.endpoint)
                && (m[1] == 0 && m[4] >= 0 && m[4] <= 7 || m[1] == 1 && m[4] >= 0 && m[4] <= 15 || m[1] == 2);
        if (!good) {
            ignored++;
        } else if (m[1] == 0) {
            if (++p.referrals == 9) {
                p.state = 3;
            } else {
                ask(p, m[4]);
            }
        } else {
            Note note = new Note(Range.of(m[2], m[3]), m[1] == 1 ? m[4] : -1, m[5], time);
            List<Note> notes = sites.get(to).notes;
            notes.removeIf(n -> time >= n.made + 60 || n.range.common(note.range) > 0);
            if (notes.size() == 6) {
                Note first = notes.get(0);
                for (Note n : notes) {
                    first = n.made < first.made ? n : first;
                }
                notes.remove(first);
            }
            notes.add(note);
            act(p, note);
        }
    }

    private void getData(int place, int[] m) {
        if (!sites.containsKey(m[0]) || m[1] < 1 || m[1] > packets.size()) {
            return;
        }
        Packet p = packets.get(m[1] - 1);
        Integer host = siteAtPlace(place);
        if (host != null && sites.get(host).has(m[2])) {
            p.state = 2;
            p.deliveredAt.add(host);
            return;
        }
        int[] left = null;
        for (int[] d : departures) {
            left = d[0] == place ? d : left;
        }
        if (host == null && left != null && time < left[2] + 30) {
            post(3, sites.get(left[1]).place, m[0], m[1], m[2]);
        } else {
            p.state = p.state == 1 ? 4 : p.state;
            if (host == null) {
                return;
            }
        }
        solicits++;
        post(4, m[0], m[2], place);
    }

    void repeat(int k) {
        demandMessage(k);
        lay(row.get(k).clone());
    }

    void drop(int k) {
        demandMessage(k);
        row.remove(k);
    }

    void forge(int k, int i, int v) {
        demandMessage(k);
        if (i < 0 || i > 5) {
            throw new IndexOutOfBoundsException();
        }
        row.get(k)[i] = v;
    }

    int message(int k, int what) {
        demandMessage(k);
        if (what < 0 || what > 7) {
            throw new IndexOutOfBoundsException();
        }
        return row.get(k)[what];
    }

    int run(int n) {
        demand(n >= 0 && n <= 1000);
        for (int i = 0; i < n; i++) {
            if (row.isEmpty()) {
                return i;
            }
            carry(0);
        }
        return n;
    }

    void pass(int t) {
        demand(t >= 1 && t <= 1000 && time + t <= 1000000);
        time += t;
    }

    int packet(int p, int what) {
        demand(p >= 1 && p <= packets.size());
        Packet packet = packets.get(p - 1);
        return what == 0 ? packet.state
                : what == 1 ? (packet.deliveredAt.isEmpty() ? -1 : packet.deliveredAt.get(0))
                : what == 2 ? packet.referrals : what == 3 ? packet.deliveredAt.size() : -1;
    }

    int note(int s, int endpoint, int what) {
        demand(sites.containsKey(s));
        Note n = noteWith(s, endpoint);
        return n == null ? -1 : what == 0 ? n.range.length() : what == 1 ? n.place : what == 2 ? n.version : -1;
    }

    int truth(int endpoint) {
        Entry longest = null;
        for (int server : servers.keySet()) {
            for (Entry e : live(server)) {
                if (e.range.has(endpoint) && (longest == null || e.range.length() > longest.range.length())) {
                    longest = e;
                }
            }
        }
        return longest == null ? -1 : longest.site;
    }

    int count(int what) {
        int entries = 0;
        for (int server : servers.keySet()) {
            entries += live(server).size();
        }
        long notes = sites.values().stream().flatMap(s -> s.notes.stream()).filter(n -> time < n.made + 60).count();
        int[] counts = {row.size(), refused, ignored, solicits, lost, packets.size(), time, entries, (int) notes};
        return what < 0 || what >= counts.length ? -1 : counts[what];
    }
}

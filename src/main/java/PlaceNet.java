/**
 * Sites that keep their prefixes while their places change, and the tree of servers that knows
 * which prefix is at which place. The document's terms are used as names throughout.
 */
public final class PlaceNet {
    private static final int SERVERS = 8;
    private static final int SITES = 8;
    private static final int PLACES = 16;
    private static final int NOBODY = -1;

    private static final int FIELDS = 6;
    private static final int KIND = 6;
    private static final int TO = 7;

    private static final int REGISTER = 0;
    private static final int REQUEST = 1;
    private static final int REPLY = 2;
    private static final int DATA = 3;
    private static final int SOLICIT = 4;

    private static final int REFERRAL = 0;
    private static final int MAPPING = 1;
    private static final int HOLE = 2;

    private static final int MOST_PACKETS = 200;
    private static final int MOST_RUN = 1000;
    private static final int MOST_PASS = 1000;
    private static final int MOST_TIME = 1000000;
    private static final int FORWARDS_FOR = 30;
    private static final int REFERRALS_TO_GIVE_UP = 9;

    private final Tree tree;
    private final Site[] sites;
    private final int[] leaver;
    private final int[] leftAt;
    private final Row row;
    // The message being carried, and the fields of one being sent: used again so that none is made.
    private final int[] hand;
    private final int[] draft;
    private final Packet[] packets;
    private int packetCount;
    private int time;
    private int drawn;
    private int refused;
    private int ignored;
    private int solicits;

    public PlaceNet() {
        tree = new Tree();
        sites = new Site[SITES];
        leaver = new int[PLACES];
        for (int place = 0; place < PLACES; place++) {
            leaver[place] = NOBODY;
        }
        leftAt = new int[PLACES];
        row = new Row();
        hand = new int[Row.WIDTH];
        draft = new int[FIELDS];
        packets = new Packet[MOST_PACKETS];
        drawn = 1;
    }

    public void delegate(int parent, int child, int bits, int length) throws IllegalArgumentException {
        Server giver = tree.at(parent);
        if (giver == null || child < 0 || child >= SERVERS || tree.at(child) != null) {
            throw new IllegalArgumentException("the parent must be there and the child must not");
        }
        Prefix part = Prefix.of(bits, length);
        if (part == null || part.same(giver.part) || !tree.owns(giver, part)) {
            throw new IllegalArgumentException("no prefix, not the parent's own, or its whole part");
        }
        tree.plant(new Server(child, parent, part));
    }

    public void site(int s, int place) throws IllegalArgumentException {
        if (s < 0 || s >= SITES || sites[s] != null) {
            throw new IllegalArgumentException("no such site, or it is there already");
        }
        if (!isPlace(place) || hostOf(place) != NOBODY) {
            throw new IllegalArgumentException("no such place, or a site is there");
        }
        sites[s] = new Site(place);
    }

    public int prefix(int s, int bits, int length) throws IllegalArgumentException {
        Site site = siteAt(s);
        if (site == null || site.isFull()) {
            throw new IllegalArgumentException("the site isn't there or has four prefixes");
        }
        Prefix wanted = Prefix.of(bits, length);
        if (wanted == null || tree.ownerOf(wanted) == null || isHeld(wanted)) {
            throw new IllegalArgumentException("no prefix, of several servers, or a site has it");
        }
        return site.add(wanted);
    }

    public void move(int s, int place) throws IllegalArgumentException {
        Site site = siteAt(s);
        if (site == null || !isPlace(place) || hostOf(place) != NOBODY) {
            throw new IllegalArgumentException("no such site or place, or a site is there");
        }
        leaver[site.place] = s;
        leftAt[site.place] = time;
        site.place = place;
    }

    public int register(int s) throws IllegalArgumentException {
        Site site = siteAt(s);
        if (site == null) {
            throw new IllegalArgumentException("the site isn't there");
        }
        int sent = 0;
        for (int i = 0; i < site.prefixCount; i++) {
            Server owner = tree.ownerOf(site.prefixes[i]);
            if (owner != null) {
                site.lastNonce++;
                postRegister(owner.number, s, site.prefixes[i], site.place, site.lastNonce);
                sent++;
            }
        }
        return sent;
    }

    public int send(int s, int endpoint) throws IllegalStateException, IllegalArgumentException {
        if (packetCount >= MOST_PACKETS) {
            throw new IllegalStateException("there are 200 packets");
        }
        Site site = siteAt(s);
        if (site == null) {
            throw new IllegalArgumentException("the site isn't there");
        }
        Packet packet = new Packet(packetCount + 1, s, endpoint);
        packets[packetCount] = packet;
        packetCount++;
        start(packet, site);
        return packet.number;
    }

    public void carry(int k) throws IndexOutOfBoundsException {
        if (!row.has(k)) {
            throw new IndexOutOfBoundsException("no such message");
        }
        bring(k);
    }

    public void repeat(int k) throws IndexOutOfBoundsException {
        if (!row.has(k)) {
            throw new IndexOutOfBoundsException("no such message");
        }
        row.addAgain(k);
    }

    public void drop(int k) throws IndexOutOfBoundsException {
        if (!row.has(k)) {
            throw new IndexOutOfBoundsException("no such message");
        }
        row.remove(k);
    }

    public void forge(int k, int i, int v) throws IndexOutOfBoundsException {
        if (!row.has(k) || i < 0 || i >= FIELDS) {
            throw new IndexOutOfBoundsException("no such message or field");
        }
        row.set(k, i, v);
    }

    public int message(int k, int what) throws IndexOutOfBoundsException {
        if (!row.has(k) || what < 0 || what >= Row.WIDTH) {
            throw new IndexOutOfBoundsException("no such message, or nothing such of it");
        }
        return row.get(k, what);
    }

    public int run(int n) throws IllegalArgumentException {
        if (n < 0 || n > MOST_RUN) {
            throw new IllegalArgumentException("n isn't 0 .. 1000");
        }
        int carried = 0;
        while (carried < n && row.size > 0) {
            bring(0);
            carried++;
        }
        return carried;
    }

    public void pass(int t) throws IllegalArgumentException {
        if (t < 1 || t > MOST_PASS || time + t > MOST_TIME) {
            throw new IllegalArgumentException("t isn't 1 .. 1000, or time would be above 1000000");
        }
        time += t;
    }

    public int packet(int p, int what) throws IllegalArgumentException {
        Packet packet = packetAt(p);
        if (packet == null) {
            throw new IllegalArgumentException("no such packet");
        }
        switch (what) {
            case 0:
                return packet.state;
            case 1:
                return packet.deliveredAt;
            case 2:
                return packet.referrals;
            case 3:
                return packet.deliveries;
            default:
                return -1;
        }
    }

    public int note(int s, int endpoint, int what) throws IllegalArgumentException {
        Site site = siteAt(s);
        if (site == null) {
            throw new IllegalArgumentException("the site isn't there");
        }
        Note note = site.notes.find(endpoint, time);
        if (note == null) {
            return -1;
        }
        switch (what) {
            case 0:
                return note.piece.length;
            case 1:
                return note.place;
            case 2:
                return note.version;
            default:
                return -1;
        }
    }

    public int truth(int endpoint) {
        Entry longest = tree.longestEntry(endpoint, time);
        return longest == null ? NOBODY : longest.site;
    }

    public int count(int what) {
        switch (what) {
            case 0:
                return row.size;
            case 1:
                return refused;
            case 2:
                return ignored;
            case 3:
                return solicits;
            case 4:
                return row.lost;
            case 5:
                return packetCount;
            case 6:
                return time;
            case 7:
                return tree.countEntries(time);
            case 8:
                return countNotes();
            default:
                return -1;
        }
    }

    private static boolean isPlace(int place) {
        return place >= 0 && place < PLACES;
    }

    private Site siteAt(int s) {
        return s < 0 || s >= SITES ? null : sites[s];
    }

    private Packet packetAt(int number) {
        return number < 1 || number > packetCount ? null : packets[number - 1];
    }

    private int hostOf(int place) {
        for (int s = 0; s < SITES; s++) {
            if (sites[s] != null && sites[s].place == place) {
                return s;
            }
        }
        return NOBODY;
    }

    private boolean isHeld(Prefix wanted) {
        for (int s = 0; s < SITES; s++) {
            if (sites[s] != null && sites[s].holds(wanted)) {
                return true;
            }
        }
        return false;
    }

    private int countNotes() {
        int there = 0;
        for (int s = 0; s < SITES; s++) {
            if (sites[s] != null) {
                there += sites[s].notes.countThere(time);
            }
        }
        return there;
    }

    private int draw() {
        drawn ^= drawn << 13;
        drawn ^= drawn >>> 17;
        drawn ^= drawn << 5;
        return drawn;
    }

    private static int tag(int s, Prefix prefix, int place, int nonce) {
        int h = (s + 1) * 40503;
        h = mix(h, s);
        h = mix(h, prefix.bits);
        h = mix(h, prefix.length);
        h = mix(h, place);
        return mix(h, nonce);
    }

    private static int mix(int h, int value) {
        int mixed = (h ^ value) * 16777619;
        return mixed ^ mixed >>> 15;
    }

    private void postShort(int kind, int to, int first, int second, int third) {
        draft[0] = first;
        draft[1] = second;
        draft[2] = third;
        draft[3] = 0;
        draft[4] = 0;
        draft[5] = 0;
        row.add(kind, to, draft);
    }

    private void postRegister(int server, int s, Prefix prefix, int place, int nonce) {
        draft[0] = s;
        draft[1] = prefix.bits;
        draft[2] = prefix.length;
        draft[3] = place;
        draft[4] = nonce;
        draft[5] = tag(s, prefix, place, nonce);
        row.add(REGISTER, server, draft);
    }

    private void postReply(int s, int nonce, int sort, Prefix piece, int value, int version) {
        draft[0] = nonce;
        draft[1] = sort;
        draft[2] = piece.bits;
        draft[3] = piece.length;
        draft[4] = value;
        draft[5] = version;
        row.add(REPLY, s, draft);
    }

    private void postRequest(int server, Packet packet) {
        packet.nonce = draw();
        packet.state = Packet.WAITS;
        postShort(REQUEST, server, packet.site, packet.nonce, packet.endpoint);
    }

    private void postSolicit(int s, int endpoint, int place) {
        solicits++;
        postShort(SOLICIT, s, endpoint, place, 0);
    }

    private void start(Packet packet, Site site) {
        if (site.hasEndpoint(packet.endpoint)) {
            packet.arriveAt(packet.site);
            return;
        }
        Note note = site.notes.find(packet.endpoint, time);
        if (note != null) {
            follow(note, packet);
        } else {
            postRequest(0, packet);
        }
    }

    private void follow(Note note, Packet packet) {
        if (note.isHole()) {
            packet.state = Packet.UNREACHABLE;
        } else {
            packet.state = Packet.UNDER_WAY;
            postShort(DATA, note.place, packet.site, packet.number, packet.endpoint);
        }
    }

    /** The message leaves the row before it acts, so what it brings about may use its room. */
    private void bring(int k) {
        row.copy(k, hand);
        row.remove(k);
        int to = hand[TO];
        switch (hand[KIND]) {
            case REGISTER:
                takeRegister(tree.at(to));
                break;
            case REQUEST:
                takeRequest(tree.at(to));
                break;
            case REPLY:
                takeReply(to);
                break;
            case DATA:
                takeData(to);
                break;
            case SOLICIT:
                takeSolicit(siteAt(to));
                break;
            default:
                break;
        }
    }

    private void takeRegister(Server server) {
        if (server == null) {
            return;
        }
        int s = hand[0];
        int place = hand[3];
        int nonce = hand[4];
        Prefix prefix = Prefix.of(hand[1], hand[2]);
        if (prefix == null || siteAt(s) == null || !isPlace(place)
                || hand[5] != tag(s, prefix, place, nonce) || !tree.owns(server, prefix)
                || !server.isFresh(s, nonce) || !server.hasRoom(prefix, s, time)) {
            refused++;
            return;
        }
        server.keep(new Entry(prefix, s, place, nonce, time), time);
    }

    private void takeRequest(Server server) {
        int s = hand[0];
        int nonce = hand[1];
        int endpoint = hand[2];
        if (server == null || siteAt(s) == null || !server.part.has(endpoint)) {
            return;
        }
        Server child = tree.childWith(server, endpoint);
        if (child != null) {
            postReply(s, nonce, REFERRAL, child.part, child.number, 0);
            return;
        }
        Entry best = server.best(endpoint, time);
        Prefix piece = tree.piece(server, best, endpoint, time);
        if (best != null) {
            postReply(s, nonce, MAPPING, piece, best.place, best.version);
        } else {
            postReply(s, nonce, HOLE, piece, 0, 0);
        }
    }

    private void takeReply(int s) {
        Site site = siteAt(s);
        if (site == null) {
            return;
        }
        int sort = hand[1];
        int value = hand[4];
        Packet packet = waiting(s, hand[0]);
        Prefix piece = Prefix.of(hand[2], hand[3]);
        if (packet == null || piece == null || !piece.has(packet.endpoint)
                || !isValue(sort, value)) {
            ignored++;
        } else if (sort == REFERRAL) {
            refer(packet, value);
        } else {
            Note note = new Note(piece, sort == HOLE ? Note.NO_PLACE : value, hand[5], time);
            site.notes.make(note, time);
            follow(note, packet);
        }
    }

    private Packet waiting(int s, int nonce) {
        for (int i = 0; i < packetCount; i++) {
            Packet packet = packets[i];
            if (packet.state == Packet.WAITS && packet.site == s && packet.nonce == nonce) {
                return packet;
            }
        }
        return null;
    }

    private static boolean isValue(int sort, int value) {
        switch (sort) {
            case REFERRAL:
                return value >= 0 && value < SERVERS;
            case MAPPING:
                return isPlace(value);
            default:
                return sort == HOLE;
        }
    }

    private void refer(Packet packet, int server) {
        packet.referrals++;
        if (packet.referrals >= REFERRALS_TO_GIVE_UP) {
            packet.state = Packet.UNREACHABLE;
        } else {
            postRequest(server, packet);
        }
    }

    private void takeData(int place) {
        int s = hand[0];
        int endpoint = hand[2];
        Packet packet = packetAt(hand[1]);
        if (siteAt(s) == null || packet == null || !isPlace(place)) {
            return;
        }
        int host = hostOf(place);
        if (host == NOBODY) {
            passOn(packet, place);
        } else if (sites[host].hasEndpoint(endpoint)) {
            packet.arriveAt(host);
        } else {
            postSolicit(s, endpoint, place);
            packet.lose();
        }
    }

    private void passOn(Packet packet, int place) {
        Site gone = siteAt(leaver[place]);
        if (gone == null || time - leftAt[place] >= FORWARDS_FOR) {
            packet.lose();
            return;
        }
        int s = hand[0];
        int endpoint = hand[2];
        postShort(DATA, gone.place, s, packet.number, endpoint);
        postSolicit(s, endpoint, place);
    }

    private void takeSolicit(Site site) {
        if (site != null) {
            site.notes.lose(hand[0], hand[1], time);
        }
    }

    private static final class Prefix {
        static final int WHOLE = 32;

        final int bits;
        final int length;

        Prefix(int bits, int length) {
            this.bits = bits;
            this.length = length;
        }

        /** Null if bits and length are no prefix. */
        static Prefix of(int bits, int length) {
            if (length < 0 || length > WHOLE || (bits & ~mask(length)) != 0) {
                return null;
            }
            return new Prefix(bits, length);
        }

        static Prefix round(int endpoint, int length) {
            return new Prefix(endpoint & mask(length), length);
        }

        // A shift by 32 would shift by 0, so length 0 stands apart.
        private static int mask(int length) {
            return length <= 0 ? 0 : -1 << (WHOLE - length);
        }

        boolean has(int endpoint) {
            return (endpoint & mask(length)) == bits;
        }

        boolean same(Prefix other) {
            return bits == other.bits && length == other.length;
        }

        boolean liesIn(Prefix outer) {
            return length >= outer.length && (bits & mask(outer.length)) == outer.bits;
        }

        /** Whether it lies in the prefix of that length that has the endpoint. */
        boolean liesRound(int endpoint, int roundLength) {
            return length >= roundLength && ((bits ^ endpoint) & mask(roundLength)) == 0;
        }

        /** Of two prefixes with an endpoint in common one lies in the other. */
        boolean meets(Prefix other) {
            return liesIn(other) || other.liesIn(this);
        }
    }

    private static final class Entry {
        private static final int LASTS = 180;

        final Prefix prefix;
        final int site;
        final int place;
        final int version;
        private final int lapsesAt;

        Entry(Prefix prefix, int site, int place, int version, int now) {
            this.prefix = prefix;
            this.site = site;
            this.place = place;
            this.version = version;
            this.lapsesAt = now + LASTS;
        }

        boolean holdsAt(int now) {
            return now < lapsesAt;
        }
    }

    private static final class Server {
        private static final int MOST_ENTRIES = 16;

        final int number;
        final int parent;
        final Prefix part;
        private final Entry[] entries;
        // Held as longs so that "none taken yet" lies below every nonce that forge() may bring.
        private final long[] highestTaken;

        Server(int number, int parent, Prefix part) {
            this.number = number;
            this.parent = parent;
            this.part = part;
            entries = new Entry[MOST_ENTRIES];
            highestTaken = new long[SITES];
            for (int s = 0; s < SITES; s++) {
                highestTaken[s] = Long.MIN_VALUE;
            }
        }

        boolean isFresh(int s, int nonce) {
            return s >= 0 && s < SITES && nonce > highestTaken[s];
        }

        boolean hasRoom(Prefix prefix, int s, int now) {
            int slot = slotFor(prefix, now);
            return slot >= 0 && (!isLive(slot, now) || entries[slot].site == s);
        }

        void keep(Entry entry, int now) {
            int slot = slotFor(entry.prefix, now);
            if (slot >= 0) {
                entries[slot] = entry;
                highestTaken[entry.site] = entry.version;
            }
        }

        Entry best(int endpoint, int now) {
            Entry best = null;
            for (int i = 0; i < MOST_ENTRIES; i++) {
                if (isLive(i, now) && entries[i].prefix.has(endpoint)
                        && (best == null || entries[i].prefix.length > best.prefix.length)) {
                    best = entries[i];
                }
            }
            return best;
        }

        boolean hasOtherRound(int endpoint, int length, Entry best, int now) {
            for (int i = 0; i < MOST_ENTRIES; i++) {
                if (isLive(i, now) && entries[i] != best
                        && entries[i].prefix.liesRound(endpoint, length)) {
                    return true;
                }
            }
            return false;
        }

        int countEntries(int now) {
            int live = 0;
            for (int i = 0; i < MOST_ENTRIES; i++) {
                if (isLive(i, now)) {
                    live++;
                }
            }
            return live;
        }

        private boolean isLive(int slot, int now) {
            return entries[slot] != null && entries[slot].holdsAt(now);
        }

        /** The slot of the prefix's entry, else one that is free; -1 if 16 others hold them all. */
        private int slotFor(Prefix prefix, int now) {
            int free = -1;
            for (int i = 0; i < MOST_ENTRIES; i++) {
                if (!isLive(i, now)) {
                    free = i;
                } else if (entries[i].prefix.same(prefix)) {
                    return i;
                }
            }
            return free;
        }
    }

    /** The servers that are there, and whose own an endpoint is. */
    private static final class Tree {
        private final Server[] servers;

        Tree() {
            servers = new Server[SERVERS];
            servers[0] = new Server(0, NOBODY, new Prefix(0, 0));
        }

        Server at(int number) {
            return number < 0 || number >= SERVERS ? null : servers[number];
        }

        void plant(Server server) {
            if (server.number >= 0 && server.number < SERVERS) {
                servers[server.number] = server;
            }
        }

        boolean owns(Server server, Prefix prefix) {
            if (!prefix.liesIn(server.part)) {
                return false;
            }
            for (int i = 0; i < SERVERS; i++) {
                if (isChild(i, server) && servers[i].part.meets(prefix)) {
                    return false;
                }
            }
            return true;
        }

        Server ownerOf(Prefix prefix) {
            for (int i = 0; i < SERVERS; i++) {
                if (servers[i] != null && owns(servers[i], prefix)) {
                    return servers[i];
                }
            }
            return null;
        }

        Server childWith(Server server, int endpoint) {
            for (int i = 0; i < SERVERS; i++) {
                if (isChild(i, server) && servers[i].part.has(endpoint)) {
                    return servers[i];
                }
            }
            return null;
        }

        /** Ends at length 32 at the latest: alone, the endpoint can have nothing but the best in it. */
        Prefix piece(Server server, Entry best, int endpoint, int now) {
            int length = best == null ? server.part.length : best.prefix.length;
            while (length < Prefix.WHOLE && (server.hasOtherRound(endpoint, length, best, now)
                    || hasChildRound(server, endpoint, length))) {
                length++;
            }
            return Prefix.round(endpoint, length);
        }

        /** Only a longer one takes over, so of several the lowest server's stays. */
        Entry longestEntry(int endpoint, int now) {
            Entry longest = null;
            for (int i = 0; i < SERVERS; i++) {
                Entry best = servers[i] == null ? null : servers[i].best(endpoint, now);
                if (best != null && (longest == null || best.prefix.length > longest.prefix.length)) {
                    longest = best;
                }
            }
            return longest;
        }

        int countEntries(int now) {
            int live = 0;
            for (int i = 0; i < SERVERS; i++) {
                if (servers[i] != null) {
                    live += servers[i].countEntries(now);
                }
            }
            return live;
        }

        private boolean isChild(int number, Server server) {
            return servers[number] != null && servers[number].parent == server.number;
        }

        private boolean hasChildRound(Server server, int endpoint, int length) {
            for (int i = 0; i < SERVERS; i++) {
                if (isChild(i, server) && servers[i].part.liesRound(endpoint, length)) {
                    return true;
                }
            }
            return false;
        }
    }

    private static final class Note {
        static final int NO_PLACE = -1;
        private static final int LASTS = 60;

        final Prefix piece;
        final int place;
        final int version;
        private final int goesAt;

        Note(Prefix piece, int place, int version, int now) {
            this.piece = piece;
            this.place = place;
            this.version = version;
            this.goesAt = now + LASTS;
        }

        boolean isHole() {
            return place == NO_PLACE;
        }

        boolean isThere(int now) {
            return now < goesAt;
        }
    }

    /** A site's notes in the order in which they were made; as all last equally, they go in it too. */
    private static final class Notes {
        private static final int MOST = 6;

        private final Note[] kept;
        private int size;

        Notes() {
            kept = new Note[MOST];
        }

        Note find(int endpoint, int now) {
            for (int i = 0; i < size; i++) {
                if (kept[i].isThere(now) && kept[i].piece.has(endpoint)) {
                    return kept[i];
                }
            }
            return null;
        }

        void make(Note note, int now) {
            for (int i = size - 1; i >= 0; i--) {
                if (!kept[i].isThere(now) || kept[i].piece.meets(note.piece)) {
                    remove(i);
                }
            }
            if (size >= MOST) {
                remove(0);
            }
            kept[size] = note;
            size++;
        }

        void lose(int endpoint, int place, int now) {
            for (int i = size - 1; i >= 0; i--) {
                if (!kept[i].isThere(now) || kept[i].piece.has(endpoint) && kept[i].place == place) {
                    remove(i);
                }
            }
        }

        int countThere(int now) {
            int there = 0;
            for (int i = 0; i < size; i++) {
                if (kept[i].isThere(now)) {
                    there++;
                }
            }
            return there;
        }

        private void remove(int at) {
            for (int i = at; i < size - 1; i++) {
                kept[i] = kept[i + 1];
            }
            size--;
        }
    }

    private static final class Site {
        private static final int MOST_PREFIXES = 4;

        int place;
        int lastNonce;
        final Prefix[] prefixes;
        int prefixCount;
        final Notes notes;

        Site(int place) {
            this.place = place;
            prefixes = new Prefix[MOST_PREFIXES];
            notes = new Notes();
        }

        boolean isFull() {
            return prefixCount >= MOST_PREFIXES;
        }

        int add(Prefix prefix) {
            int which = prefixCount;
            if (which < MOST_PREFIXES) {
                prefixes[which] = prefix;
                prefixCount++;
            }
            return which;
        }

        boolean holds(Prefix wanted) {
            for (int i = 0; i < prefixCount; i++) {
                if (prefixes[i].same(wanted)) {
                    return true;
                }
            }
            return false;
        }

        boolean hasEndpoint(int endpoint) {
            for (int i = 0; i < prefixCount; i++) {
                if (prefixes[i].has(endpoint)) {
                    return true;
                }
            }
            return false;
        }
    }

    private static final class Packet {
        static final int WAITS = 0;
        static final int UNDER_WAY = 1;
        static final int DELIVERED = 2;
        static final int UNREACHABLE = 3;
        static final int LOST = 4;

        final int number;
        final int site;
        final int endpoint;
        int state;
        int nonce;
        int deliveredAt;
        int referrals;
        int deliveries;

        Packet(int number, int site, int endpoint) {
            this.number = number;
            this.site = site;
            this.endpoint = endpoint;
            deliveredAt = NOBODY;
        }

        void arriveAt(int host) {
            state = DELIVERED;
            if (deliveries == 0) {
                deliveredAt = host;
            }
            deliveries++;
        }

        void lose() {
            if (state == UNDER_WAY) {
                state = LOST;
            }
        }
    }

    /** The messages, in a ring of cells, so that taking the oldest away moves no other. */
    private static final class Row {
        static final int WIDTH = 8;
        private static final int MOST = 200;

        private final int[] cells;
        private int first;
        int size;
        int lost;

        Row() {
            cells = new int[MOST * WIDTH];
        }

        boolean has(int k) {
            return k >= 0 && k < size;
        }

        int get(int k, int what) {
            return cells[cell(k) + what];
        }

        void set(int k, int what, int value) {
            cells[cell(k) + what] = value;
        }

        void copy(int k, int[] into) {
            System.arraycopy(cells, cell(k), into, 0, WIDTH);
        }

        void add(int kind, int to, int[] fields) {
            if (size >= MOST) {
                lost++;
                return;
            }
            int at = cell(size);
            System.arraycopy(fields, 0, cells, at, FIELDS);
            cells[at + KIND] = kind;
            cells[at + TO] = to;
            size++;
        }

        void addAgain(int k) {
            if (size >= MOST) {
                lost++;
                return;
            }
            System.arraycopy(cells, cell(k), cells, cell(size), WIDTH);
            size++;
        }

        void remove(int k) {
            for (int i = k; i > 0; i--) {
                System.arraycopy(cells, cell(i - 1), cells, cell(i), WIDTH);
            }
            first = (first + 1) % MOST;
            size--;
        }

        private int cell(int k) {
            return (first + k) % MOST * WIDTH;
        }
    }
}

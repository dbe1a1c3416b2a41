/** Every sentence of the section "Terms" that names a boundary, each with a test of its own. */
public final class PlaceNetTermsTest {
    private static final Check check = new Check();
    private static final int LOW = Integer.MIN_VALUE;
    private static final int HIGH = Integer.MAX_VALUE;

    private static final int WAITS = 0;
    private static final int UNDER_WAY = 1;
    private static final int DELIVERED = 2;
    private static final int UNREACHABLE = 3;
    private static final int LOST = 4;

    public static void main(String[] args) {
        endpointsAndPrefixes();
        serversAndSites();
        row();
        tags();
        registers();
        entries();
        requests();
        pieces();
        notes();
        packets();
        replies();
        data();
        leavers();
        solicits();
        check.end();
    }

    private static PlaceNet twoSites() {
        PlaceNet x = new PlaceNet();
        x.site(0, 0);
        x.site(1, 1);
        return x;
    }

    /** Site 1 at place 1 has 0x20/8 and is registered; the row is empty. */
    private static PlaceNet registered() {
        PlaceNet x = twoSites();
        x.prefix(1, 0x20000000, 8);
        x.register(1);
        x.run(1);
        return x;
    }

    /** Site 0 has asked for 0x20000005 with packet 1; the REPLY lies in the row. */
    private static PlaceNet answered() {
        PlaceNet x = registered();
        x.send(0, 0x20000005);
        x.run(1);
        return x;
    }

    /** Site 0 has heard it: the DATA to place 1 lies in the row. */
    private static PlaceNet underWay() {
        PlaceNet x = answered();
        x.run(1);
        return x;
    }

    private static void fill(PlaceNet x, int upTo) {
        while (x.count(0) < upTo) {
            x.repeat(0);
        }
    }

    /** Whether server 0 takes a REGISTER that says this; site 1 has one prefix, of server 0. */
    private static int takes(PlaceNet x, int... said) {
        int before = x.count(1);
        x.register(1);
        int k = x.count(0) - 1;
        Calls.forgeRegister(x, k, said);
        x.carry(k);
        return before + 1 - x.count(1);
    }

    private static void isTaken(PlaceNet x, String what, int... said) {
        check.same(what + " (1 taken, 0 refused)", takes(x, said), 1);
    }

    private static void isRefused(PlaceNet x, String what, int... said) {
        int entries = x.count(7);
        check.same(what + " (1 taken, 0 refused)", takes(x, said), 0);
        check.same(what + ": entries", x.count(7), entries);
    }

    /** Asks server 0 in site 0's name and compares all of the REPLY but its nonce. */
    private static void isReply(PlaceNet x, String what, int endpoint, int sort, int... rest) {
        x.send(0, endpoint);
        int k = x.count(0) - 1;
        x.carry(k);
        check.same(what + ": kind", x.message(k, 6), 2);
        check.same(what + ": to", x.message(k, 7), 0);
        check.same(what + ": sort", x.message(k, 1), sort);
        for (int i = 0; i < 4; i++) {
            check.same(what + ": field " + (i + 2), x.message(k, i + 2), rest[i]);
        }
        x.drop(k);
    }

    /** Site 0 hears of a piece by a REPLY that is forged: place -1 for a HOLE. Leaves no message. */
    private static void hear(PlaceNet x, int endpoint, int length, int place) {
        int mask = length == 0 ? 0 : -1 << (32 - length);
        x.send(0, endpoint);
        x.run(1);
        x.forge(0, 1, place < 0 ? 2 : 1);
        x.forge(0, 2, endpoint & mask);
        x.forge(0, 3, length);
        x.forge(0, 4, place < 0 ? 0 : place);
        x.run(1);
        while (x.count(0) > 0) {
            x.drop(0);
        }
    }

    private static void endpointsAndPrefixes() {
        check.sentence("An ENDPOINT is an int.", () -> {
            for (int endpoint : new int[] {LOW, LOW + 1, -1, 0, 1, HIGH}) {
                PlaceNet x = twoSites();
                x.prefix(1, endpoint, 32);
                x.register(1);
                x.run(1);
                check.same("truth of " + endpoint, x.truth(endpoint), 1);
                check.same("its neighbour's", x.truth(endpoint ^ 1), -1);
                x.send(0, endpoint);
                check.same("asked for", x.message(0, 2), endpoint);
                x.run(3);
                check.same("it came", x.packet(1, 1), 1);
                check.same("noted", x.note(0, endpoint, 0), 32);
            }
        });
        check.sentence("A PREFIX is bits and a length, 0 .. 32", () -> {
            PlaceNet x = twoSites();
            check.same("length 0", x.prefix(1, 0, 0), 0);
            check.same("length 32", x.prefix(1, 0x30000001, 32), 1);
            check.bad("length -1", () -> x.prefix(1, 0, -1));
            check.bad("length 33", () -> x.prefix(1, 0, 33));
            check.bad("length 32 + 32, as a shift would take it", () -> x.prefix(1, 0, 64));
        });
        check.sentence("all bits behind the first ones (as many as the length) being 0", () -> {
            for (int length = 0; length <= 31; length++) {
                int of = length;
                PlaceNet x = twoSites();
                check.bad("the first bit behind " + of, () -> x.prefix(1, LOW >>> of, of));
                check.bad("the last bit, length " + of, () -> x.prefix(1, 1, of));
                check.fine("all bits of length " + of, () -> x.prefix(1, of == 0 ? 0 : -1 << (32 - of), of));
            }
        });
        check.sentence("it has the endpoints that begin with these", () -> {
            for (int length = 1; length <= 32; length++) {
                PlaceNet x = twoSites();
                x.prefix(1, LOW, length);
                x.register(1);
                x.run(1);
                int last = length == 32 ? LOW : LOW + (-1 >>> length);
                check.same("first, length " + length, x.truth(LOW), 1);
                check.same("last, length " + length, x.truth(last), 1);
                check.same("behind, length " + length, x.truth(last + 1), -1);
                check.same("before, length " + length, x.truth(LOW - 1), -1);
            }
        });
    }

    private static void serversAndSites() {
        check.sentence("SERVERS are 0 .. 7", () -> {
            PlaceNet x = new PlaceNet();
            check.bad("8", () -> x.delegate(0, 8, LOW, 1));
            check.bad("-1", () -> x.delegate(0, -1, LOW, 1));
            for (int n = 1; n <= 7; n++) {
                int child = n;
                check.fine("server " + n, () -> x.delegate(child - 1, child, 0, child));
            }
            x.site(0, 0);
            x.prefix(0, 0, 8);
            x.register(0);
            check.same("the deepest is asked", x.message(0, 7), 7);
        });
        check.sentence("server 0 is there, with all endpoints", () -> {
            PlaceNet x = twoSites();
            isReply(x, "the first", 0, 2, 0, 0, 0, 0);
            isReply(x, "the last", -1, 2, 0, 0, 0, 0);
            isReply(x, "the lowest", LOW, 2, 0, 0, 0, 0);
        });
        check.sentence("What is in a server's part and in no child's is its OWN.", () -> {
            PlaceNet x = registered();
            x.delegate(0, 1, 0x30000000, 4);
            x.delegate(1, 2, 0x38000000, 5);
            isTaken(x, "just before the child's part", 1, 0x2FFFFFFF, 32, 0, 2);
            isTaken(x, "just behind it", 1, 0x40000000, 32, 0, 3);
            isRefused(x, "its first endpoint", 1, 0x30000000, 32, 0, 4);
            isRefused(x, "its last endpoint, a grandchild's", 1, 0x3FFFFFFF, 32, 0, 5);
        });
        check.sentence("SITES are 0 .. 7, PLACES 0 .. 15", () -> {
            PlaceNet x = new PlaceNet();
            check.fine("0 at 0", () -> x.site(0, 0));
            check.fine("7 at 15", () -> x.site(7, 15));
            check.bad("8", () -> x.site(8, 1));
            check.bad("-1", () -> x.site(-1, 1));
            check.bad("place 16", () -> x.site(1, 16));
            check.bad("place -1", () -> x.site(1, -1));
        });
        check.sentence("no two are at one", () -> {
            PlaceNet x = twoSites();
            check.bad("a new one", () -> x.site(2, 1));
            check.bad("one that moves", () -> x.move(0, 1));
        });
        check.sentence("A site has up to four prefixes.", () -> {
            PlaceNet x = twoSites();
            for (int i = 0; i < 4; i++) {
                check.same("which", x.prefix(0, i << 24, 8), i);
            }
            check.bad("a fifth", () -> x.prefix(0, 4 << 24, 8));
            check.same("four", x.register(0), 4);
        });
        check.sentence("TIME is 0 at first.", () -> check.same("time", new PlaceNet().count(6), 0));
    }

    private static void row() {
        check.sentence("MESSAGES lie in a row in the order in which they were sent", () -> {
            PlaceNet x = registered();
            x.register(1);
            x.send(0, 0x30000000);
            x.send(1, 0x40000000);
            check.same("first", x.message(0, 6), 0);
            check.same("second", x.message(1, 2), 0x30000000);
            check.same("third", x.message(2, 2), 0x40000000);
        });
        check.sentence("at most 200 (one that would be more is lost, and counted): a REGISTER", () -> {
            PlaceNet x = registered();
            x.send(0, 0x30000000);
            fill(x, 199);
            x.register(1);
            check.same("the 200th has room", x.message(199, 6), 0);
            check.same("none lost", x.count(4), 0);
            x.register(1);
            check.same("200", x.count(0), 200);
            check.same("one lost", x.count(4), 1);
            check.same("the 200th is as it was", x.message(199, 4), 2);
        });
        check.sentence("at most 200: a REQUEST", () -> {
            PlaceNet x = registered();
            x.send(0, 0x30000000);
            fill(x, 200);
            x.send(1, 0x40000000);
            check.same("200", x.count(0), 200);
            check.same("one lost", x.count(4), 1);
            check.same("the last", x.message(199, 2), 0x30000000);
        });
        check.sentence("at most 200: DATA", () -> {
            PlaceNet x = underWay();
            fill(x, 200);
            x.send(0, 0x20000006);
            check.same("200", x.count(0), 200);
            check.same("one lost", x.count(4), 1);
            check.same("the last", x.message(199, 2), 0x20000005);
        });
        check.sentence("at most 200: a message that comes once more", () -> {
            PlaceNet x = underWay();
            fill(x, 200);
            check.fine("no exception", () -> x.repeat(0));
            check.same("200", x.count(0), 200);
            check.same("one lost", x.count(4), 1);
            x.drop(7);
            x.repeat(0);
            check.same("room again", x.count(0), 200);
            check.same("still one lost", x.count(4), 1);
        });
        check.sentence("the row goes round often and stays in order", () -> {
            PlaceNet x = twoSites();
            for (int i = 0; i < 190; i++) {
                x.send(0, i);
            }
            x.run(190);
            check.same("all replies", x.count(0), 190);
            int g = 1;
            for (int k = 0; k < 190; k++) {
                g = Calls.nextDraw(g);
                check.same("in order", x.message(k, 0), g);
            }
            x.carry(100);
            x.drop(50);
            x.repeat(0);
            check.same("the newest is the first once more", x.message(188, 0), x.message(0, 0));
            check.same("189", x.count(0), 189);
        });
    }

    private static void tags() {
        check.sentence("The TAG of a REGISTER ... (as ints)", () -> {
            isTag(-1062783077, 0, 0x10000000, 8, 3);
            isTag(-1683704389, 0, 0, 0, 0);
            isTag(-715516352, 7, -1, 32, 15);
        });
        check.sentence("the TAG of nonces at the ints' ends", () -> {
            check.same("the lowest", Calls.tagOf(0, 0x20000000, 8, 0, LOW), 1750729445);
            check.same("the highest", Calls.tagOf(0, 0x20000000, 8, 0, HIGH), -1767636649);
            PlaceNet x = registered();
            isTaken(x, "the lowest", 0, 0x30000000, 8, 0, LOW);
            isTaken(x, "the highest", 0, 0x30000000, 8, 0, HIGH);
        });
    }

    private static void isTag(int due, int s, int bits, int length, int place) {
        PlaceNet x = new PlaceNet();
        x.site(s, place);
        x.prefix(s, bits, length);
        x.register(s);
        check.same("tag of site " + s, x.message(0, 5), due);
        x.run(1);
        check.same("and it is taken", x.count(7), 1);
    }

    private static void registers() {
        check.sentence("refuses it unless: its site is there", () -> {
            PlaceNet x = registered();
            for (int s : new int[] {-1, 2, 7, 8, LOW, HIGH}) {
                isRefused(x, "site " + s, s, 0x30000000, 8, 1, 9);
            }
            isTaken(x, "a site that is there", 0, 0x30000000, 8, 1, 9);
        });
        check.sentence("refuses it unless: the tag is right", () -> {
            for (int bit = 0; bit < 32; bit++) {
                PlaceNet x = registered();
                x.register(1);
                x.forge(0, 5, x.message(0, 5) ^ 1 << bit);
                x.run(1);
                check.same("bit " + bit + " of the tag", x.count(1), 1);
            }
            int[] others = {0, 0x21000000, 9, 2, 3};
            for (int i = 0; i <= 4; i++) {
                PlaceNet x = registered();
                x.register(1);
                x.forge(0, i, others[i]);
                x.run(1);
                check.same("field " + i + " with the old tag", x.count(1), 1);
            }
        });
        check.sentence("refuses it unless: the place is 0 .. 15", () -> {
            PlaceNet x = registered();
            isTaken(x, "place 0", 1, 0x30000000, 8, 0, 10);
            isTaken(x, "place 15", 1, 0x30000000, 8, 15, 11);
            for (int place : new int[] {-1, 16, LOW, HIGH}) {
                isRefused(x, "place " + place, 1, 0x30000000, 8, place, 12);
            }
        });
        check.sentence("refuses it unless: bits and length are a prefix", () -> {
            PlaceNet x = registered();
            for (int length : new int[] {-1, 33, 64, LOW, HIGH}) {
                isRefused(x, "length " + length, 1, 0, length, 0, 10);
            }
            isRefused(x, "a bit behind it", 1, 0x30800000, 8, 0, 10);
            isRefused(x, "a bit with length 0", 1, LOW, 0, 0, 10);
            isTaken(x, "length 0", 1, 0, 0, 0, 10);
            isTaken(x, "length 32", 1, 0x30000001, 32, 0, 11);
        });
        check.sentence("refuses it unless: all whose endpoints are its own", () -> {
            PlaceNet x = registered();
            x.delegate(0, 1, 0x30000000, 4);
            isRefused(x, "the child's part", 1, 0x30000000, 4, 0, 10);
            isRefused(x, "round it", 1, 0x20000000, 3, 0, 10);
            isRefused(x, "all", 1, 0, 0, 0, 10);
            isTaken(x, "beside it", 1, 0x20000000, 4, 0, 10);
            x.delegate(0, 2, 0x20000000, 4);
            x.register(1);
            check.same("to the new owner", x.message(0, 7), 2);
            Calls.forgeRegister(x, 0, 1, 0x20000000, 3, 0, 10);
            x.run(1);
            check.same("round the server's whole part", x.count(1), 4);
            x.register(1);
            Calls.forgeRegister(x, 0, 1, 0x20000000, 4, 0, 10);
            x.run(1);
            check.same("its whole part", x.count(1), 4);
        });
        check.sentence("refused ... (counted)", () -> {
            PlaceNet x = registered();
            for (int i = 1; i <= 3; i++) {
                isRefused(x, "place 16", 1, 0x30000000, 8, 16, 9);
                check.same("so many", x.count(1), i);
            }
        });
    }

    private static void entries() {
        check.sentence("it has no ENTRY for the prefix, or one of that site or one that lapsed", () -> {
            PlaceNet x = registered();
            isRefused(x, "another site's", 0, 0x20000000, 8, 0, 1);
            isTaken(x, "its own", 1, 0x20000000, 8, 5, 9);
            x.pass(179);
            isRefused(x, "another site's, not lapsed", 0, 0x20000000, 8, 0, 1);
            x.pass(1);
            isTaken(x, "one that lapsed", 0, 0x20000000, 8, 0, 1);
            isRefused(x, "now this site's", 1, 0x20000000, 8, 5, 20);
            isTaken(x, "a longer one", 1, 0x20000000, 9, 5, 20);
            isTaken(x, "a shorter one", 1, 0x20000000, 7, 5, 21);
        });
        check.sentence("it has less than 16 ENTRIES of other prefixes", () -> {
            PlaceNet x = registered();
            for (int i = 1; i <= 15; i++) {
                isTaken(x, "entry " + (i + 1), 1, 0x30000000 + (i << 8), 24, 0, i + 1);
            }
            check.same("sixteen", x.count(7), 16);
            isRefused(x, "the seventeenth", 1, 0x40000000, 24, 0, 100);
            isRefused(x, "another site's", 0, 0x40000000, 24, 0, 100);
            isTaken(x, "one of the sixteen, with fifteen others", 1, 0x30000F00, 24, 7, 101);
            check.same("sixteen still", x.count(7), 16);
        });
        check.sentence("(lapsed ones don't count)", () -> {
            PlaceNet x = registered();
            x.pass(1);
            for (int i = 1; i <= 15; i++) {
                isTaken(x, "entry " + (i + 1), 1, 0x30000000 + (i << 8), 24, 0, i + 1);
            }
            x.pass(178);
            isRefused(x, "none has lapsed", 1, 0x40000000, 24, 0, 100);
            x.pass(1);
            isTaken(x, "the first has lapsed", 1, 0x40000000, 24, 0, 100);
            isRefused(x, "it alone", 1, 0x41000000, 24, 0, 101);
            x.pass(1);
            check.same("fifteen more have", x.count(7), 1);
        });
        check.sentence("all 16 ENTRIES count: each answers, and each bounds a HOLE", () -> {
            PlaceNet x = registered();
            for (int i = 0; i <= 15; i++) {
                isTaken(x, "entry " + i, 1, i << 28, 8, i, i + 2);
            }
            check.same("sixteen", x.count(7), 16);
            for (int i = 0; i <= 15; i++) {
                int first = i << 28;
                check.same("truth", x.truth(first), 1);
                isReply(x, "the entry", first, 1, first, 8, i, i + 2);
                isReply(x, "beside it", first + 0x08000000, 2, first + 0x08000000, 5, 0, 0);
            }
        });
        check.sentence("sixteen ENTRIES each server for itself", () -> {
            PlaceNet x = registered();
            x.delegate(0, 1, 0x50000000, 4);
            x.prefix(0, 0x50000000, 8);
            for (int i = 1; i <= 15; i++) {
                isTaken(x, "entry " + (i + 1), 1, 0x30000000 + (i << 8), 24, 0, i + 1);
            }
            x.register(0);
            x.run(1);
            check.same("the other server's first", x.count(7), 17);
        });
        check.sentence("and lapses 180 later (at that time it has lapsed)", () -> {
            PlaceNet x = registered();
            x.pass(100);
            isTaken(x, "anew", 1, 0x20000000, 8, 3, 7);
            x.pass(179);
            check.same("there at 179", x.count(7), 1);
            isReply(x, "place and VERSION", 0x20000005, 1, 0x20000000, 8, 3, 7);
            x.pass(1);
            check.same("lapsed at 180", x.count(7), 0);
            isReply(x, "none", 0x20000005, 2, 0, 0, 0, 0);
        });
    }

    private static void requests() {
        check.sentence("sends nothing if its site isn't there", () -> {
            PlaceNet x = registered();
            for (int s : new int[] {-1, 2, 7, 8, LOW, HIGH}) {
                x.send(0, 0x20000005);
                x.forge(0, 0, s);
                x.run(1);
                check.same("site " + s, x.count(0), 0);
            }
        });
        check.sentence("or the endpoint isn't in its part", () -> {
            PlaceNet x = twoSites();
            x.delegate(0, 1, 0x30000000, 4);
            for (int endpoint : new int[] {0x2FFFFFFF, 0x40000000, LOW, -1, 0}) {
                x.send(0, 0x30000000);
                x.run(2);
                check.same("to server 1", x.message(0, 7), 1);
                x.forge(0, 2, endpoint);
                x.run(1);
                check.same("endpoint " + endpoint, x.count(0), 0);
            }
            x.send(0, 0x30000000);
            x.run(2);
            x.forge(0, 2, 0x3FFFFFFF);
            x.run(1);
            check.isMessage("its last endpoint", x, 0, x.message(0, 0), 2, 0x30000000, 4, 0, 0, 2, 0);
        });
        check.sentence("If it is in a child's part, it sends a REFERRAL ... version 0", () -> {
            PlaceNet x = registered();
            x.delegate(0, 7, 0x20000000, 8);
            isReply(x, "though an entry has it: first", 0x20000000, 0, 0x20000000, 8, 7, 0);
            isReply(x, "last", 0x20FFFFFF, 0, 0x20000000, 8, 7, 0);
            x.delegate(7, 6, 0x20000000, 9);
            isReply(x, "the child, not the grandchild", 0x20000000, 0, 0x20000000, 8, 7, 0);
            isReply(x, "before", 0x1FFFFFFF, 2, 0, 3, 0, 0);
            isReply(x, "behind", 0x21000000, 2, 0x21000000, 8, 0, 0);
        });
    }

    private static void pieces() {
        check.sentence("of its entries that haven't lapsed, the longest one that has the endpoint is the BEST", () -> {
            PlaceNet x = registered();
            x.pass(60);
            isTaken(x, "inside", 1, 0x20000000, 16, 7, 2);
            isTaken(x, "outside", 1, 0, 0, 9, 3);
            isReply(x, "longest", 0x20000000, 1, 0x20000000, 16, 7, 2);
            isReply(x, "middle", 0x20800000, 1, 0x20800000, 9, 1, 1);
            isReply(x, "shortest", LOW, 1, LOW, 1, 9, 3);
            x.pass(120);
            isReply(x, "the middle one lapsed", 0x20800000, 1, 0x20800000, 9, 9, 3);
        });
        check.sentence("of all prefixes that have the endpoint and lie in its part: the whole part", () -> {
            PlaceNet x = twoSites();
            isReply(x, "length 0", 5, 2, 0, 0, 0, 0);
            x.delegate(0, 1, 5, 32);
            x.send(0, 5);
            x.run(3);
            check.isMessage("length 32", x, 0, x.message(0, 0), 2, 5, 32, 0, 0, 2, 0);
        });
        check.sentence("(in the BEST, if there is one): the whole BEST", () -> {
            PlaceNet x = registered();
            isTaken(x, "length 0", 1, 0, 0, 3, 2);
            isTaken(x, "length 32", 1, -1, 32, 4, 3);
            isReply(x, "length 8", 0x20000000, 1, 0x20000000, 8, 1, 1);
            isReply(x, "length 32", -1, 1, -1, 32, 4, 3);
            isReply(x, "beside it", -2, 1, -2, 32, 3, 2);
        });
        check.sentence("the shortest one in which no other entry (that hasn't lapsed) lies", () -> {
            PlaceNet x = twoSites();
            x.prefix(1, 0, 32);
            x.register(1);
            x.run(1);
            for (int bit = 0; bit < 32; bit++) {
                int endpoint = 1 << bit;
                isReply(x, "bit " + bit, endpoint, 2, endpoint, 32 - bit, 0, 0);
            }
            x.pass(179);
            isReply(x, "not lapsed", 1, 2, 1, 32, 0, 0);
            x.pass(1);
            isReply(x, "lapsed", 1, 2, 0, 0, 0, 0);
        });
        check.sentence("nor a child's part", () -> {
            PlaceNet x = registered();
            x.delegate(0, 1, 0x20000000, 32);
            isReply(x, "in the BEST", 0x20000001, 1, 0x20000001, 32, 1, 1);
            isReply(x, "far in the BEST", 0x20800000, 1, 0x20800000, 9, 1, 1);
            x.delegate(0, 2, LOW, 2);
            isReply(x, "in the part", 0xC0000000, 2, 0xC0000000, 2, 0, 0);
            x.pass(180);
            isReply(x, "parts don't lapse", 0x20000001, 2, 0x20000001, 32, 0, 0);
        });
        check.sentence("or, if there is none, as a HOLE, value and version 0", () -> {
            PlaceNet x = registered();
            isReply(x, "beside", 0x21000000, 2, 0x21000000, 8, 0, 0);
            isReply(x, "far", -1, 2, LOW, 1, 0, 0);
        });
    }

    private static void notes() {
        check.sentence("Each site keeps at most six NOTES of MAPPINGS and HOLES", () -> {
            PlaceNet x = twoSites();
            for (int i = 0; i < 6; i++) {
                hear(x, i << 28, 4, i % 2 == 0 ? 3 : -1);
                check.same("notes", x.count(8), i + 1);
            }
            hear(x, 0x70000000, 4, 3);
            check.same("six", x.count(8), 6);
            check.same("the new one", x.note(0, 0x70000000, 1), 3);
            check.same("the oldest went", x.note(0, 0, 0), -1);
            check.same("the second stays", x.note(0, 0x10000000, 0), 4);
        });
        check.sentence("six NOTES each site for itself", () -> {
            PlaceNet x = twoSites();
            for (int i = 0; i < 6; i++) {
                hear(x, i << 28, 4, 3);
            }
            x.send(1, 0x70000000);
            x.run(2);
            check.same("seven in all", x.count(8), 7);
        });
        check.sentence("a note is there until 60 later (at that time it has gone)", () -> {
            PlaceNet x = twoSites();
            x.pass(5);
            hear(x, 0x20000000, 8, 3);
            hear(x, 0x30000000, 8, -1);
            x.pass(59);
            check.same("at 59", x.note(0, 0x20000000, 1), 3);
            check.same("two", x.count(8), 2);
            check.same("the hole says so", x.packet(x.send(0, 0x30000000), 0), UNREACHABLE);
            x.pass(1);
            check.same("at 60", x.note(0, 0x20000000, 1), -1);
            check.same("none", x.count(8), 0);
            check.same("it is asked for", x.packet(x.send(0, 0x30000000), 0), WAITS);
        });
        check.sentence("One that is made takes away all that have endpoints in common with it", () -> {
            PlaceNet x = twoSites();
            hear(x, 0x20000000, 8, 3);
            hear(x, 0x21000000, 8, -1);
            hear(x, 0x40000000, 8, 3);
            hear(x, 0x22000000, 6, 5);
            check.same("the one round two takes both", x.count(8), 2);
            check.same("it", x.note(0, 0x20000000, 0), 6);
            check.same("the one beside it stays", x.note(0, 0x40000000, 0), 8);
        });
        check.sentence("all that have endpoints in common: the very same, one inside, one outside", () -> {
            PlaceNet x = twoSites();
            int[] lengths = {8, 8, 32, 0};
            for (int length : lengths) {
                x.send(0, 0x20000000);
            }
            x.run(4);
            for (int i = 0; i < 4; i++) {
                x.forge(0, 2, lengths[i] == 0 ? 0 : 0x20000000);
                x.forge(0, 3, lengths[i]);
                x.run(1);
                check.same("one alone", x.count(8), 1);
                check.same("the newest", x.note(0, 0x20000000, 0), lengths[i]);
            }
        });
        check.sentence("then, if there are six still: none more goes when one was taken away", PlaceNetTermsTest::sixStill);
        check.sentence("the one that goes first", () -> {
            PlaceNet x = twoSites();
            hear(x, 0, 4, 3);
            x.pass(20);
            for (int i = 1; i < 6; i++) {
                hear(x, i << 28, 4, 3);
            }
            hear(x, 0x70000000, 4, 3);
            check.same("the earliest", x.note(0, 0, 0), -1);
            check.same("no other", x.note(0, 0x10000000, 0), 4);
            check.same("six", x.count(8), 6);
        });
        check.sentence("(of several the one that was made first)", () -> {
            PlaceNet x = twoSites();
            for (int i = 5; i >= 0; i--) {
                hear(x, i << 28, 4, 3);
            }
            for (int i = 5; i >= 0; i--) {
                hear(x, LOW + (i << 28), 4, 3);
                check.same("the next went", x.note(0, i << 28, 0), -1);
                check.same("six", x.count(8), 6);
            }
        });
        check.sentence("a note that has gone takes no room", () -> {
            PlaceNet x = twoSites();
            hear(x, 0, 4, 3);
            x.pass(30);
            for (int i = 1; i < 6; i++) {
                hear(x, i << 28, 4, 3);
            }
            x.pass(30);
            check.same("five", x.count(8), 5);
            hear(x, 0x70000000, 4, 3);
            check.same("six", x.count(8), 6);
            check.same("the second is there", x.note(0, 0x10000000, 0), 4);
        });
    }

    /** Two packets wait for one endpoint, so that one piece can be heard of twice. */
    private static void sixStill() {
        PlaceNet x = twoSites();
        x.send(0, 0x50000000);
        x.send(0, 0x50000001);
        x.run(2);
        for (int k = 0; k < 2; k++) {
            x.forge(k, 2, 0x50000000);
            x.forge(k, 3, 4);
        }
        x.run(1);
        for (int i = 0; i < 5; i++) {
            x.send(0, i << 28);
            x.carry(1);
            x.forge(1, 2, i << 28);
            x.forge(1, 3, 4);
            x.carry(1);
        }
        check.same("six", x.count(8), 6);
        x.run(1);
        check.same("the same anew", x.count(8), 6);
        for (int i = 0; i < 6; i++) {
            check.same("all are there", x.note(0, i << 28, 0), 4);
        }
    }

    private static void packets() {
        check.sentence("PACKETS have numbers from 1 on, at most 200.", () -> {
            PlaceNet x = twoSites();
            x.prefix(0, 0, 0);
            for (int i = 1; i <= 200; i++) {
                check.same("number", x.send(0, 7), i);
            }
            check.raises("201", IllegalStateException.class, () -> x.send(0, 7));
        });
        check.sentence("if the site itself has a prefix with the endpoint, it is DELIVERED there", () -> {
            PlaceNet x = twoSites();
            hear(x, 0x30000000, 8, 9);
            x.prefix(0, 0x30000000, 8);
            int p = x.send(0, 0x30FFFFFF);
            check.same("though a note has it", x.packet(p, 0), DELIVERED);
            check.same("there", x.packet(p, 1), 0);
            check.same("once", x.packet(p, 3), 1);
            check.same("no message", x.count(0), 0);
            check.same("behind its prefix", x.packet(x.send(0, 0x31000000), 0), WAITS);
        });
        check.sentence("if there is a note with the endpoint, what it says is done", () -> {
            PlaceNet x = twoSites();
            hear(x, 0x20000000, 8, 15);
            hear(x, 0x30000000, 8, -1);
            check.same("for a place", x.packet(x.send(0, 0x20FFFFFF), 0), UNDER_WAY);
            check.isMessage("DATA goes there", x, 0, 0, 3, 0x20FFFFFF, 0, 0, 0, 3, 15);
            check.same("for a HOLE", x.packet(x.send(0, 0x30FFFFFF), 0), UNREACHABLE);
            check.same("no message", x.count(0), 1);
        });
        check.sentence("otherwise it WAITS, and a REQUEST goes to server 0", () -> {
            PlaceNet x = twoSites();
            x.delegate(0, 1, 0x20000000, 8);
            check.same("waits", x.packet(x.send(1, 0x20000000), 0), WAITS);
            check.isMessage("REQUEST", x, 0, 1, 270369, 0x20000000, 0, 0, 0, 1, 0);
        });
        check.sentence("DRAW ... at first G is 1", () -> {
            int[] due = {270369, 67634689, -1647531835, 307599695, -1896278063, 745495504, 632435482, 435756210};
            PlaceNet x = twoSites();
            for (int k = 0; k < due.length; k++) {
                x.send(k & 1, k);
                check.same("of all sites one row of nonces", x.message(k, 1), due[k]);
            }
        });
    }

    /** What a REPLY does whose fields are forged in pairs: field, value. */
    private static void isHeard(String what, int ignored, int state, int... pairs) {
        PlaceNet x = answered();
        for (int i = 0; i < pairs.length; i += 2) {
            x.forge(0, pairs[i], pairs[i + 1]);
        }
        x.run(1);
        check.same(what + ": ignored", x.count(2), ignored);
        check.same(what + ": state", x.packet(1, 0), state);
        check.same(what + ": notes", x.count(8), state == WAITS ? 0 : 1);
        check.same(what + ": messages", x.count(0), ignored == 1 || state == UNREACHABLE ? 0 : 1);
    }

    private static void replies() {
        check.sentence("ignores it (counted) unless a packet of its WAITS with that nonce", () -> {
            isHeard("its nonce", 0, UNDER_WAY);
            for (int nonce : new int[] {0, 1, -1, 67634689, LOW, HIGH}) {
                isHeard("nonce " + nonce, 1, WAITS, 0, nonce);
            }
            PlaceNet x = answered();
            x.repeat(0);
            x.run(1);
            x.carry(0);
            check.same("it waits no more", x.count(2), 1);
            PlaceNet y = registered();
            y.send(0, 0x20000005);
            y.forge(0, 0, 1);
            y.run(2);
            check.same("another site's packet", y.count(2), 1);
            check.same("waits on", y.packet(1, 0), WAITS);
        });
        check.sentence("sort is 0 .. 2", () -> {
            isHeard("sort 0", 0, WAITS, 1, 0);
            isHeard("sort 1", 0, UNDER_WAY, 1, 1);
            isHeard("sort 2", 0, UNREACHABLE, 1, 2);
            for (int sort : new int[] {-1, 3, LOW, HIGH}) {
                isHeard("sort " + sort, 1, WAITS, 1, sort);
            }
        });
        check.sentence("bits and length are a prefix with its endpoint", () -> {
            isHeard("length 0", 0, UNDER_WAY, 2, 0, 3, 0);
            isHeard("length 32", 0, UNDER_WAY, 2, 0x20000005, 3, 32);
            isHeard("length -1", 1, WAITS, 2, 0, 3, -1);
            isHeard("length 33", 1, WAITS, 2, 0x20000005, 3, 33);
            isHeard("length 64", 1, WAITS, 2, 0, 3, 64);
            isHeard("bits behind", 1, WAITS, 2, 0x20000005, 3, 31);
            isHeard("the neighbour", 1, WAITS, 2, 0x20000004, 3, 32);
            isHeard("the pair", 0, UNDER_WAY, 2, 0x20000004, 3, 31);
            for (int sort = 0; sort <= 2; sort++) {
                isHeard("another prefix, sort " + sort, 1, WAITS, 1, sort, 2, 0x21000000, 4, 0);
            }
        });
        check.sentence("the value is, for a REFERRAL 0 .. 7", () -> {
            isHeard("0", 0, WAITS, 1, 0, 4, 0);
            isHeard("7", 0, WAITS, 1, 0, 4, 7);
            for (int value : new int[] {-1, 8, LOW, HIGH}) {
                isHeard("value " + value, 1, WAITS, 1, 0, 4, value);
            }
        });
        check.sentence("for a MAPPING 0 .. 15", () -> {
            isHeard("0", 0, UNDER_WAY, 4, 0);
            isHeard("15", 0, UNDER_WAY, 4, 15);
            for (int value : new int[] {-1, 16, LOW, HIGH}) {
                isHeard("value " + value, 1, WAITS, 4, value);
            }
        });
        check.sentence("for a HOLE any value", () -> {
            for (int value : new int[] {-1, 16, LOW, HIGH}) {
                isHeard("value " + value, 0, UNREACHABLE, 1, 2, 4, value);
            }
        });
        check.sentence("it goes on to WAIT with a new nonce and a REQUEST to the server that is the value", () -> {
            PlaceNet x = answered();
            x.forge(0, 1, 0);
            x.forge(0, 4, 7);
            x.repeat(0);
            x.run(1);
            check.isMessage("REQUEST", x, 1, 0, 67634689, 0x20000005, 0, 0, 0, 1, 7);
            check.same("one", x.packet(1, 2), 1);
            x.run(1);
            check.same("the old nonce is nothing now", x.count(2), 1);
            check.same("still one", x.packet(1, 2), 1);
        });
    }

    private static void data() {
        check.sentence("the packet is DELIVERED there, whatever it was", () -> {
            for (int state : new int[] {WAITS, UNDER_WAY, DELIVERED, UNREACHABLE, LOST}) {
                isDelivered(state);
            }
        });
        check.sentence("(where it was delivered first is kept, how often is counted)", () -> {
            PlaceNet x = underWay();
            x.prefix(0, 0x20000000, 16);
            x.repeat(0);
            x.repeat(0);
            x.run(1);
            x.move(1, 9);
            x.move(0, 1);
            x.run(2);
            check.same("first", x.packet(1, 1), 1);
            check.same("how often", x.packet(1, 3), 3);
        });
        check.sentence("otherwise, a SOLICIT with that place goes to the DATA's site, and the packet is LOST", () -> {
            PlaceNet x = underWay();
            x.forge(0, 0, 1);
            x.forge(0, 2, 0x21000000);
            x.run(1);
            check.isMessage("SOLICIT", x, 0, 0x21000000, 1, 0, 0, 0, 0, 4, 1);
            check.same("lost", x.packet(1, 0), LOST);
            check.same("sent", x.count(3), 1);
        });
        check.sentence("(if it was under way; likewise below)", () -> {
            for (int state : new int[] {WAITS, DELIVERED, UNREACHABLE, LOST}) {
                PlaceNet x = withPacketThatIs(state);
                x.forge(0, 1, 2);
                x.forge(0, 2, 0x21000000);
                x.run(1);
                check.same("state " + state + " stays", x.packet(2, 0), state);
                check.same("the other packet too", x.packet(1, 0), UNDER_WAY);
                PlaceNet y = withPacketThatIs(state);
                y.forge(0, 1, 2);
                y.move(1, 9);
                y.pass(30);
                y.run(1);
                check.same("state " + state + " stays, nobody there", y.packet(2, 0), state);
            }
        });
        check.sentence("DATA whose site isn't there does nothing", () -> {
            for (int s : new int[] {-1, 2, 7, 8, LOW, HIGH}) {
                isNothing("site " + s, 0, s);
            }
        });
        check.sentence("or whose packet's number isn't one, does nothing", () -> {
            for (int p : new int[] {-1, 0, 2, 200, 201, LOW, HIGH}) {
                isNothing("packet " + p, 1, p);
            }
        });
    }

    /** Packet 1 is under way, its DATA the oldest message; packet 2 is in that state. */
    private static PlaceNet withPacketThatIs(int state) {
        PlaceNet x = underWay();
        if (state == DELIVERED) {
            x.prefix(0, 0x40000000, 8);
        }
        x.send(0, state == UNDER_WAY || state == LOST ? 0x20000006 : 0x40000000);
        if (state == UNREACHABLE) {
            x.carry(1);
            x.carry(1);
        }
        if (state == LOST) {
            x.forge(1, 2, 0x40000000);
            x.carry(1);
        }
        check.same("set up", x.packet(2, 0), state);
        return x;
    }

    private static void isDelivered(int state) {
        PlaceNet x = withPacketThatIs(state);
        int before = x.packet(2, 3);
        x.forge(0, 1, 2);
        x.run(1);
        check.same("delivered from state " + state, x.packet(2, 0), DELIVERED);
        check.same("at", x.packet(2, 1), state == DELIVERED ? 0 : 1);
        check.same("once more", x.packet(2, 3), before + 1);
    }

    /** With somebody there, with nobody there, and with somebody just gone. */
    private static void isNothing(String what, int field, int value) {
        for (int passed : new int[] {0, 1, 30}) {
            PlaceNet x = underWay();
            x.forge(0, field, value);
            if (passed > 0) {
                x.move(1, 9);
                x.pass(passed);
            }
            x.run(1);
            check.same(what + ": under way still", x.packet(1, 0), UNDER_WAY);
            check.same(what + ": no message", x.count(0), 0);
            check.same(what + ": no SOLICIT", x.count(3), 0);
        }
    }

    private static void leavers() {
        check.sentence("for 30 from when a site moved away from there last (not at the end of it)", () -> {
            for (int passed = 0; passed <= 31; passed++) {
                PlaceNet x = underWay();
                x.pass(3);
                x.move(1, 9);
                if (passed > 0) {
                    x.pass(passed);
                }
                x.run(1);
                check.same("after " + passed, x.packet(1, 0), passed < 30 ? UNDER_WAY : LOST);
                check.same("messages after " + passed, x.count(0), passed < 30 ? 2 : 0);
                check.same("SOLICITS after " + passed, x.count(3), passed < 30 ? 1 : 0);
            }
        });
        check.sentence("moved away from there last: the last one that left, from when it left", () -> {
            PlaceNet x = underWay();
            x.site(2, 2);
            x.move(1, 9);
            x.pass(20);
            x.move(2, 1);
            x.pass(20);
            x.move(2, 3);
            x.pass(29);
            x.repeat(0);
            x.run(1);
            check.same("to where the last is", x.message(1, 7), 3);
            x.pass(1);
            x.run(1);
            check.same("no more at 30", x.packet(1, 0), LOST);
        });
        check.sentence("moved away from there last: the same one that came back and left again", () -> {
            PlaceNet x = underWay();
            x.move(1, 9);
            x.pass(25);
            x.move(1, 1);
            x.move(1, 8);
            x.pass(29);
            x.run(1);
            check.same("to where it is", x.message(0, 7), 8);
        });
        check.sentence("DATA goes on, first, to where that site is now", () -> {
            PlaceNet x = underWay();
            x.move(1, 9);
            x.move(1, 15);
            x.run(1);
            check.isMessage("DATA", x, 0, 0, 1, 0x20000005, 0, 0, 0, 3, 15);
            check.isMessage("then SOLICIT", x, 1, 0x20000005, 1, 0, 0, 0, 0, 4, 0);
            x.run(1);
            check.same("it came", x.packet(1, 0), DELIVERED);
        });
        check.sentence("otherwise the packet is LOST: nobody ever left", () -> {
            for (int place = 0; place <= 15; place++) {
                PlaceNet x = new PlaceNet();
                x.site(0, (place + 1) % 16);
                x.send(0, 5);
                x.run(1);
                x.forge(0, 1, 1);
                x.forge(0, 4, place);
                x.run(2);
                check.same("lost at " + place, x.packet(1, 0), LOST);
                check.same("no SOLICIT", x.count(3), 0);
                check.same("no message", x.count(0), 0);
            }
        });
    }

    private static void solicits() {
        check.sentence("loses its notes with the endpoint and with that place", () -> {
            isSolicited("both", 0, 0x20000005, 1);
            isSolicited("its first endpoint", 0, 0x20000000, 1);
            isSolicited("its last endpoint", 0, 0x20FFFFFF, 1);
            isSolicited("an endpoint before", 1, 0x1FFFFFFF, 1);
            isSolicited("an endpoint behind", 1, 0x21000000, 1);
            for (int place : new int[] {0, 2, 15, 16, -1, LOW, HIGH}) {
                isSolicited("place " + place, 1, 0x20000005, place);
            }
        });
        check.sentence("(of place -1, which forge() may bring, its HOLES)", () -> {
            for (int place : new int[] {-1, 0, -2, 16, LOW, HIGH}) {
                PlaceNet x = twoSites();
                hear(x, 0x40000000, 8, -1);
                hear(x, 0x20000000, 8, 1);
                x.send(0, 0x20000000);
                x.run(1);
                x.forge(0, 0, 0x40000000);
                x.forge(0, 1, place);
                x.run(1);
                check.same("place " + place, x.count(8), place == -1 ? 1 : 2);
                check.same("the mapping stays", x.note(0, 0x20000000, 1), 1);
            }
        });
        check.sentence("A site that gets a SOLICIT: no other site's notes", () -> {
            PlaceNet x = underWay();
            x.site(2, 2);
            x.send(2, 0x20000006);
            x.carry(1);
            x.carry(1);
            check.same("two notes", x.count(8), 2);
            x.move(1, 9);
            x.run(1);
            check.same("the SOLICIT to site 0", x.message(2, 7), 0);
            x.carry(2);
            check.same("site 0 lost it", x.note(0, 0x20000005, 0), -1);
            check.same("site 2 did not", x.note(2, 0x20000005, 0), 8);
        });
        check.sentence("Messages to servers, sites or places that aren't there do nothing.", () -> {
            for (int server = 1; server <= 7; server++) {
                PlaceNet x = answered();
                x.forge(0, 1, 0);
                x.forge(0, 4, server);
                x.run(1);
                check.same("to server " + server, x.message(0, 7), server);
                x.run(1);
                check.same("the message is gone", x.count(0), 0);
                check.same("it waits", x.packet(1, 0), WAITS);
                check.same("nothing ignored", x.count(2), 0);
                check.same("nothing refused", x.count(1), 0);
            }
        });
    }

    /** Site 0 has one note, of 0x20/8 at place 1, and gets a SOLICIT that says this. */
    private static void isSolicited(String what, int notesLeft, int endpoint, int place) {
        PlaceNet x = underWay();
        x.forge(0, 2, 0x30000000);
        x.run(1);
        x.forge(0, 0, endpoint);
        x.forge(0, 1, place);
        x.run(1);
        check.same(what, x.count(8), notesLeft);
    }
}
